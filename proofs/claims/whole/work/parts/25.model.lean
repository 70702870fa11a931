/-! ===== the reference: days ===== -/
def shM (S : List fs_Sh) (m : Nat) : Prop :=
  S[m]? = some (.inr (8, [none, some (some (m + 1)), none, some (some (m + 2)), some (some (m + 3)), some (some (m + 4)), some (some (m + 5)), some (some (m + 6)), some (some (m + 7)), none, none, none, none, none, none, none, none, none, none, none, none, none, some (some (m + 8)), none, none, some (some (m + 9)), none, none, some (some (m + 10)), some (some (m + 11)), some (some (m + 12)), none, none])) ∧
  S[m + 1]? = some (.inl (.int, 900)) ∧ S[m + 2]? = some (.inl (.int, 83)) ∧ S[m + 3]? = some (.inl (.int, 83)) ∧ S[m + 4]? = some (.inl (.int, 18)) ∧ S[m + 5]? = some (.inl (.int, 18)) ∧ S[m + 6]? = some (.inl (.int, 18)) ∧ S[m + 7]? = some (.inl (.int, 216)) ∧ S[m + 8]? = some (.inl (.int, 12)) ∧ S[m + 9]? = some (.inl (.int, 64)) ∧ S[m + 10]? = some (.inl (.int, 7)) ∧ S[m + 11]? = some (.inl (.int, 7)) ∧ S[m + 12]? = some (.inl (.int, 7))
/-- a row from a place on -/
def fr_ (f : Nat → Int32) (o : Nat) : Nat → Int32 := fun k => f (o + k)
theorem li_4 (k : Nat) : (4 : Int32) + nI k = nI (4 + k) := nI_add 4 k
theorem li_24 (k : Nat) : (24 : Int32) + nI k = nI (24 + k) := nI_add 24 k
theorem li_38 (k : Nat) : (38 : Int32) + nI k = nI (38 + k) := nI_add 38 k
theorem li_52 (k : Nat) : (52 : Int32) + nI k = nI (52 + k) := nI_add 52 k
theorem li_66 (k : Nat) : (66 : Int32) + nI k = nI (66 + k) := nI_add 66 k
theorem k_82 : Int32.toNatClampNeg 82 = 82 := by decide
theorem k_81 : Int32.toNatClampNeg 81 = 81 := by decide
theorem k_80 : Int32.toNatClampNeg 80 = 80 := by decide
theorem or0 (x : Int32) : x ||| 0 = x := by simp
section PM
variable {g : fs_G} {d : Nat} {S : List fs_Sh} {fr : Bool} {σ : Nat → Nat → Int32} {τ : Nat → Nat → Int64} {m : Nat}
theorem c_isOn (hM : shM S m) {k : Nat} (hk : k < 14) (e : Int32) : fs_Ct g m_X9_isOn [.ref m, .int (nI k), .int e] ((S, fr), σ, τ) (fun r M' => r = some (.int (bI (decide (fr_ (σ (m + 4)) 4 k = e)))) ∧ ((S, fr), σ, τ) = M') := by
  refine fs_enterC (by decide) (by simp [fs_ok]) (Nat.le_of_ble_eq_true rfl) (fun d => S_X9_isOn_0 ?_)
  show T_X9_isOn_0 g d _ [.ref m, .int (nI k), .int e] [] _
  simp only [T_X9_isOn_0, fi_const, fi_iload, fi_aload, fi_istore, fi_astore, fi_iinc, fi_bin, fi_div, fi_un, fi_dup, fi_dup2, fi_pop, fi_if, fi_cmp, fi_getf, fi_putf, fi_putr, fi_ald, fi_ast, fi_alen, fi_iret, fi_zret, fi_vret, fi_cut, fi_no, fi_s0, fi_s1, fi_s2, fi_s3, fi_s4, fi_v0, fi_v1, fi_v2, fi_v3, fi_v4, fi_v5, fi_n0, fi_n1, fi_n2, fi_mm, fi_stat, fi_alds, fi_tsw, List.getElem?_cons_zero, List.getElem?_cons_succ, List.set_cons_zero, List.set_cons_succ, List.length_cons, List.length_nil, Option.toList_some, Option.toList_none, List.cons_append, List.nil_append, Value.category, true_and, k_0, k_1, k_2, k_3, k_4, false_implies, true_implies, reduceCtorEq]
  simp only [hM.1, hM.2.2.2.2.1, fi_const, fi_iload, fi_aload, fi_istore, fi_astore, fi_iinc, fi_bin, fi_div, fi_un, fi_dup, fi_dup2, fi_pop, fi_if, fi_cmp, fi_getf, fi_putf, fi_putr, fi_ald, fi_ast, fi_alen, fi_iret, fi_zret, fi_vret, fi_cut, fi_no, fi_s0, fi_s1, fi_s2, fi_s3, fi_s4, fi_v0, fi_v1, fi_v2, fi_v3, fi_v4, fi_v5, fi_n0, fi_n1, fi_n2, fi_mm, fi_stat, fi_alds, fi_tsw, List.getElem?_cons_zero, List.getElem?_cons_succ, List.set_cons_zero, List.set_cons_succ, List.length_cons, List.length_nil, Option.toList_some, Option.toList_none, List.cons_append, List.nil_append, Value.category, true_and, k_0, k_1, k_2, k_3, k_4, false_implies, true_implies, reduceCtorEq, li_4, nI_clamp (show 4 + k < 2 ^ 31 by omega)]
  refine ⟨vp_in_nI (by omega) (by decide), ?_⟩
  by_cases q : σ (m + 4) (4 + k) = e <;> simp [fr_, q, bI]
theorem l_scenesOf (hM : shM S m) {nS : Nat} (hnS : nS ≤ 14) (hc : σ (m + 2) 82 = nI nS) (e : Nat) : ∀ n k, k + n = nS → fs_R g m_X9_scenesOf d (0, 0) 4 [.ref m, .int (nI e), .int (scF (fr_ (σ (m + 4)) 4) e k), .int (nI k)] [] ((S, fr), σ, τ) (fun r M' => r = some (.int (scF (fr_ (σ (m + 4)) 4) e nS)) ∧ ((S, fr), σ, τ) = M')
  | n, k, h => by
    refine S_X9_scenesOf_4 ?_
    simp only [T_X9_scenesOf_4, fi_const, fi_iload, fi_aload, fi_istore, fi_astore, fi_iinc, fi_bin, fi_div, fi_un, fi_dup, fi_dup2, fi_pop, fi_if, fi_cmp, fi_getf, fi_putf, fi_putr, fi_ald, fi_ast, fi_alen, fi_iret, fi_zret, fi_vret, fi_cut, fi_no, fi_s0, fi_s1, fi_s2, fi_s3, fi_s4, fi_v0, fi_v1, fi_v2, fi_v3, fi_v4, fi_v5, fi_n0, fi_n1, fi_n2, fi_mm, fi_stat, fi_alds, fi_tsw, List.getElem?_cons_zero, List.getElem?_cons_succ, List.set_cons_zero, List.set_cons_succ, List.length_cons, List.length_nil, Option.toList_some, Option.toList_none, List.cons_append, List.nil_append, Value.category, true_and, k_0, k_1, k_2, k_3, k_4, false_implies, true_implies, reduceCtorEq, hM.1, hM.2.2.1, k_82, hc]
    refine ⟨pk_in 82 83 (by decide), pk_le nS k (fun _ => ?_) (fun h2 => ⟨by decide, ⟨_, rfl⟩, (c_isOn hM (by omega) _).mono ?_⟩)⟩
    · rw [show nS = k by omega]; exact ⟨rfl, trivial⟩
    · obtain ⟨n', rfl⟩ : ∃ n', n = n' + 1 := ⟨n - 1, by omega⟩
      rintro r M' ⟨rfl, rfl⟩
      simp only [fi_const, fi_iload, fi_aload, fi_istore, fi_astore, fi_iinc, fi_bin, fi_div, fi_un, fi_dup, fi_dup2, fi_pop, fi_if, fi_cmp, fi_getf, fi_putf, fi_putr, fi_ald, fi_ast, fi_alen, fi_iret, fi_zret, fi_vret, fi_cut, fi_no, fi_s0, fi_s1, fi_s2, fi_s3, fi_s4, fi_v0, fi_v1, fi_v2, fi_v3, fi_v4, fi_v5, fi_n0, fi_n1, fi_n2, fi_mm, fi_stat, fi_alds, fi_tsw, List.getElem?_cons_zero, List.getElem?_cons_succ, List.set_cons_zero, List.set_cons_succ, List.length_cons, List.length_nil, Option.toList_some, Option.toList_none, List.cons_append, List.nil_append, Value.category, true_and, k_0, k_1, k_2, k_3, k_4, false_implies, true_implies, reduceCtorEq, bI_eq0, decide_eq_false_iff_not, nI_1, or0]
      have := l_scenesOf hM hnS hc e n' (k + 1) (by omega)
      refine ⟨fun q => ?_, fun q => ?_⟩
      · rw [scF, if_neg q] at this; exact this
      · rw [scF, if_pos (Decidable.of_not_not q)] at this; exact this
theorem c_scenesOf (hM : shM S m) {nS : Nat} (hnS : nS ≤ 14) (hc : σ (m + 2) 82 = nI nS) (e : Nat) : fs_Ct g m_X9_scenesOf [.ref m, .int (nI e)] ((S, fr), σ, τ) (fun r M' => r = some (.int (scF (fr_ (σ (m + 4)) 4) e nS)) ∧ ((S, fr), σ, τ) = M') := by
  refine fs_enterC (by decide) (by simp [fs_ok]) (Nat.le_of_ble_eq_true rfl) (fun d => S_X9_scenesOf_0 ?_)
  show T_X9_scenesOf_0 g d _ [.ref m, .int (nI e), .null, .null] [] _
  simp only [T_X9_scenesOf_0, fi_const, fi_iload, fi_aload, fi_istore, fi_astore, fi_iinc, fi_bin, fi_div, fi_un, fi_dup, fi_dup2, fi_pop, fi_if, fi_cmp, fi_getf, fi_putf, fi_putr, fi_ald, fi_ast, fi_alen, fi_iret, fi_zret, fi_vret, fi_cut, fi_no, fi_s0, fi_s1, fi_s2, fi_s3, fi_s4, fi_v0, fi_v1, fi_v2, fi_v3, fi_v4, fi_v5, fi_n0, fi_n1, fi_n2, fi_mm, fi_stat, fi_alds, fi_tsw, List.getElem?_cons_zero, List.getElem?_cons_succ, List.set_cons_zero, List.set_cons_succ, List.length_cons, List.length_nil, Option.toList_some, Option.toList_none, List.cons_append, List.nil_append, Value.category, true_and, k_0, k_1, k_2, k_3, k_4, false_implies, true_implies, reduceCtorEq]
  exact l_scenesOf hM hnS hc e nS 0 (by omega)
theorem l_anyOf (hM : shM S m) {nS : Nat} (hnS : nS ≤ 14) (hc : σ (m + 2) 82 = nI nS) (e : Nat) : ∀ n k, k + n = nS → fs_R g m_X9_anyOf d (0, 0) 2 [.ref m, .int (nI e), .int (nI k)] [] ((S, fr), σ, τ) (fun r M' => r = some (.int (oI (anF (fr_ (σ (m + 4)) 4) e n k))) ∧ ((S, fr), σ, τ) = M')
  | 0, k, h => by
    refine S_X9_anyOf_2 ?_
    simp only [T_X9_anyOf_2, fi_const, fi_iload, fi_aload, fi_istore, fi_astore, fi_iinc, fi_bin, fi_div, fi_un, fi_dup, fi_dup2, fi_pop, fi_if, fi_cmp, fi_getf, fi_putf, fi_putr, fi_ald, fi_ast, fi_alen, fi_iret, fi_zret, fi_vret, fi_cut, fi_no, fi_s0, fi_s1, fi_s2, fi_s3, fi_s4, fi_v0, fi_v1, fi_v2, fi_v3, fi_v4, fi_v5, fi_n0, fi_n1, fi_n2, fi_mm, fi_stat, fi_alds, fi_tsw, List.getElem?_cons_zero, List.getElem?_cons_succ, List.set_cons_zero, List.set_cons_succ, List.length_cons, List.length_nil, Option.toList_some, Option.toList_none, List.cons_append, List.nil_append, Value.category, true_and, k_0, k_1, k_2, k_3, k_4, false_implies, true_implies, reduceCtorEq, hM.1, hM.2.2.1, k_82, hc]
    refine ⟨pk_in 82 83 (by decide), pk_le nS k (fun _ => ?_) (fun h2 => by omega)⟩
    simp [anF, oI]
  | n + 1, k, h => by
    refine S_X9_anyOf_2 ?_
    simp only [T_X9_anyOf_2, fi_const, fi_iload, fi_aload, fi_istore, fi_astore, fi_iinc, fi_bin, fi_div, fi_un, fi_dup, fi_dup2, fi_pop, fi_if, fi_cmp, fi_getf, fi_putf, fi_putr, fi_ald, fi_ast, fi_alen, fi_iret, fi_zret, fi_vret, fi_cut, fi_no, fi_s0, fi_s1, fi_s2, fi_s3, fi_s4, fi_v0, fi_v1, fi_v2, fi_v3, fi_v4, fi_v5, fi_n0, fi_n1, fi_n2, fi_mm, fi_stat, fi_alds, fi_tsw, List.getElem?_cons_zero, List.getElem?_cons_succ, List.set_cons_zero, List.set_cons_succ, List.length_cons, List.length_nil, Option.toList_some, Option.toList_none, List.cons_append, List.nil_append, Value.category, true_and, k_0, k_1, k_2, k_3, k_4, false_implies, true_implies, reduceCtorEq, hM.1, hM.2.2.1, k_82, hc]
    refine ⟨pk_in 82 83 (by decide), pk_le nS k (fun h2 => by omega) (fun h2 => ⟨by decide, ⟨_, rfl⟩, (c_isOn hM (by omega) _).mono ?_⟩)⟩
    rintro r M' ⟨rfl, rfl⟩
    simp only [fi_const, fi_iload, fi_aload, fi_istore, fi_astore, fi_iinc, fi_bin, fi_div, fi_un, fi_dup, fi_dup2, fi_pop, fi_if, fi_cmp, fi_getf, fi_putf, fi_putr, fi_ald, fi_ast, fi_alen, fi_iret, fi_zret, fi_vret, fi_cut, fi_no, fi_s0, fi_s1, fi_s2, fi_s3, fi_s4, fi_v0, fi_v1, fi_v2, fi_v3, fi_v4, fi_v5, fi_n0, fi_n1, fi_n2, fi_mm, fi_stat, fi_alds, fi_tsw, List.getElem?_cons_zero, List.getElem?_cons_succ, List.set_cons_zero, List.set_cons_succ, List.length_cons, List.length_nil, Option.toList_some, Option.toList_none, List.cons_append, List.nil_append, Value.category, true_and, k_0, k_1, k_2, k_3, k_4, false_implies, true_implies, reduceCtorEq, bI_eq0, decide_eq_false_iff_not, nI_1]
    refine ⟨fun q => ?_, fun q => ?_⟩
    · rw [anF, if_neg q]; exact l_anyOf hM hnS hc e n (k + 1) (by omega)
    · rw [anF, if_pos (Decidable.of_not_not q)]; exact ⟨rfl, trivial⟩
theorem c_anyOf (hM : shM S m) {nS : Nat} (hnS : nS ≤ 14) (hc : σ (m + 2) 82 = nI nS) (e : Nat) : fs_Ct g m_X9_anyOf [.ref m, .int (nI e)] ((S, fr), σ, τ) (fun r M' => r = some (.int (oI (anF (fr_ (σ (m + 4)) 4) e nS 0))) ∧ ((S, fr), σ, τ) = M') := by
  refine fs_enterC (by decide) (by simp [fs_ok]) (Nat.le_of_ble_eq_true rfl) (fun d => S_X9_anyOf_0 ?_)
  show T_X9_anyOf_0 g d _ [.ref m, .int (nI e), .null] [] _
  simp only [T_X9_anyOf_0, fi_const, fi_iload, fi_aload, fi_istore, fi_astore, fi_iinc, fi_bin, fi_div, fi_un, fi_dup, fi_dup2, fi_pop, fi_if, fi_cmp, fi_getf, fi_putf, fi_putr, fi_ald, fi_ast, fi_alen, fi_iret, fi_zret, fi_vret, fi_cut, fi_no, fi_s0, fi_s1, fi_s2, fi_s3, fi_s4, fi_v0, fi_v1, fi_v2, fi_v3, fi_v4, fi_v5, fi_n0, fi_n1, fi_n2, fi_mm, fi_stat, fi_alds, fi_tsw, List.getElem?_cons_zero, List.getElem?_cons_succ, List.set_cons_zero, List.set_cons_succ, List.length_cons, List.length_nil, Option.toList_some, Option.toList_none, List.cons_append, List.nil_append, Value.category, true_and, k_0, k_1, k_2, k_3, k_4, false_implies, true_implies, reduceCtorEq]
  exact l_anyOf hM hnS hc e nS 0 (by omega)
theorem oI_m14 {be : Option Nat} (h : ∀ b, be = some b → b < 14) : (oI be = -1) ↔ be = none := by
  cases be with
  | none => simp [oI]
  | some b =>
    have h14 := h b rfl
    simp only [oI]
    constructor
    · intro q
      have := nI_pos (n := b) (by omega)
      rw [q] at this
      exact absurd (by decide) this
    · intro q; cases q
theorem c_placeOf (hM : shM S m) {nS : Nat} (hnS : nS ≤ 14) (hc : σ (m + 2) 82 = nI nS) (e : Nat) : fs_Ct g m_X9_placeOf [.ref m, .int (nI e)] ((S, fr), σ, τ) (fun r M' => r = some (.int (plF (fr_ (σ (m + 4)) 4) (fr_ (σ (m + 2)) 24) nS e)) ∧ ((S, fr), σ, τ) = M') := by
  refine fs_enterC (by decide) (by simp [fs_ok]) (Nat.le_of_ble_eq_true rfl) (fun d => S_X9_placeOf_0 ?_)
  show T_X9_placeOf_0 g d _ [.ref m, .int (nI e), .null] [] _
  simp only [T_X9_placeOf_0, fi_const, fi_iload, fi_aload, fi_istore, fi_astore, fi_iinc, fi_bin, fi_div, fi_un, fi_dup, fi_dup2, fi_pop, fi_if, fi_cmp, fi_getf, fi_putf, fi_putr, fi_ald, fi_ast, fi_alen, fi_iret, fi_zret, fi_vret, fi_cut, fi_no, fi_s0, fi_s1, fi_s2, fi_s3, fi_s4, fi_v0, fi_v1, fi_v2, fi_v3, fi_v4, fi_v5, fi_n0, fi_n1, fi_n2, fi_mm, fi_stat, fi_alds, fi_tsw, List.getElem?_cons_zero, List.getElem?_cons_succ, List.set_cons_zero, List.set_cons_succ, List.length_cons, List.length_nil, Option.toList_some, Option.toList_none, List.cons_append, List.nil_append, Value.category, true_and, k_0, k_1, k_2, k_3, k_4, false_implies, true_implies, reduceCtorEq]
  refine ⟨by decide, ⟨_, hM.1⟩, (c_anyOf hM hnS hc e).mono ?_⟩
  rintro r M' ⟨rfl, rfl⟩
  have hb : ∀ b, anF (fr_ (σ (m + 4)) 4) e nS 0 = some b → b < 14 := fun b q => by have := (anF_some q).1; omega
  simp only [fi_const, fi_iload, fi_aload, fi_istore, fi_astore, fi_iinc, fi_bin, fi_div, fi_un, fi_dup, fi_dup2, fi_pop, fi_if, fi_cmp, fi_getf, fi_putf, fi_putr, fi_ald, fi_ast, fi_alen, fi_iret, fi_zret, fi_vret, fi_cut, fi_no, fi_s0, fi_s1, fi_s2, fi_s3, fi_s4, fi_v0, fi_v1, fi_v2, fi_v3, fi_v4, fi_v5, fi_n0, fi_n1, fi_n2, fi_mm, fi_stat, fi_alds, fi_tsw, List.getElem?_cons_zero, List.getElem?_cons_succ, List.set_cons_zero, List.set_cons_succ, List.length_cons, List.length_nil, Option.toList_some, Option.toList_none, List.cons_append, List.nil_append, Value.category, true_and, k_0, k_1, k_2, k_3, k_4, false_implies, true_implies, reduceCtorEq, oI_m14 hb, hM.1, hM.2.2.1]
  refine ⟨fun q => by simp [plF, q], fun q => ?_⟩
  obtain ⟨b, e1⟩ := Option.ne_none_iff_exists'.mp q
  have h14 := hb b e1
  simp only [plF, e1, oI, li_24, nI_clamp (show 24 + b < 2 ^ 31 by omega)]
  exact ⟨vp_in_nI (by omega) (by decide), rfl, trivial⟩
theorem c_isNightOf (hM : shM S m) {nS : Nat} (hnS : nS ≤ 14) (hc : σ (m + 2) 82 = nI nS) (e : Nat) : fs_Ct g m_X9_isNightOf [.ref m, .int (nI e)] ((S, fr), σ, τ) (fun r M' => r = some (.int (bI (decide (pnF (fr_ (σ (m + 4)) 4) (fr_ (σ (m + 2)) 52) nS e = 1)))) ∧ ((S, fr), σ, τ) = M') := by
  refine fs_enterC (by decide) (by simp [fs_ok]) (Nat.le_of_ble_eq_true rfl) (fun d => S_X9_isNightOf_0 ?_)
  show T_X9_isNightOf_0 g d _ [.ref m, .int (nI e), .null] [] _
  simp only [T_X9_isNightOf_0, fi_const, fi_iload, fi_aload, fi_istore, fi_astore, fi_iinc, fi_bin, fi_div, fi_un, fi_dup, fi_dup2, fi_pop, fi_if, fi_cmp, fi_getf, fi_putf, fi_putr, fi_ald, fi_ast, fi_alen, fi_iret, fi_zret, fi_vret, fi_cut, fi_no, fi_s0, fi_s1, fi_s2, fi_s3, fi_s4, fi_v0, fi_v1, fi_v2, fi_v3, fi_v4, fi_v5, fi_n0, fi_n1, fi_n2, fi_mm, fi_stat, fi_alds, fi_tsw, List.getElem?_cons_zero, List.getElem?_cons_succ, List.set_cons_zero, List.set_cons_succ, List.length_cons, List.length_nil, Option.toList_some, Option.toList_none, List.cons_append, List.nil_append, Value.category, true_and, k_0, k_1, k_2, k_3, k_4, false_implies, true_implies, reduceCtorEq]
  refine ⟨by decide, ⟨_, hM.1⟩, (c_anyOf hM hnS hc e).mono ?_⟩
  rintro r M' ⟨rfl, rfl⟩
  have hb : ∀ b, anF (fr_ (σ (m + 4)) 4) e nS 0 = some b → b < 14 := fun b q => by have := (anF_some q).1; omega
  simp only [fi_const, fi_iload, fi_aload, fi_istore, fi_astore, fi_iinc, fi_bin, fi_div, fi_un, fi_dup, fi_dup2, fi_pop, fi_if, fi_cmp, fi_getf, fi_putf, fi_putr, fi_ald, fi_ast, fi_alen, fi_iret, fi_zret, fi_vret, fi_cut, fi_no, fi_s0, fi_s1, fi_s2, fi_s3, fi_s4, fi_v0, fi_v1, fi_v2, fi_v3, fi_v4, fi_v5, fi_n0, fi_n1, fi_n2, fi_mm, fi_stat, fi_alds, fi_tsw, List.getElem?_cons_zero, List.getElem?_cons_succ, List.set_cons_zero, List.set_cons_succ, List.length_cons, List.length_nil, Option.toList_some, Option.toList_none, List.cons_append, List.nil_append, Value.category, true_and, k_0, k_1, k_2, k_3, k_4, false_implies, true_implies, reduceCtorEq, oI_m14 hb, hM.1, hM.2.2.1]
  refine ⟨fun q => by simp [pnF, q, bI], fun q => ?_⟩
  obtain ⟨b, e1⟩ := Option.ne_none_iff_exists'.mp q
  have h14 := hb b e1
  simp only [pnF, e1, oI, li_52, nI_clamp (show 52 + b < 2 ^ 31 by omega)]
  refine ⟨vp_in_nI (by omega) (by decide), ?_⟩
  by_cases w : σ (m + 2) (52 + b) = 1 <;> simp [fr_, w, bI]
theorem l_lengthOf (hM : shM S m) {nS : Nat} (hnS : nS ≤ 14) (hc : σ (m + 2) 82 = nI nS) (e : Nat) : ∀ n k, k + n = nS → fs_R g m_X9_lengthOf d (0, 0) 4 [.ref m, .int (nI e), .int (leF (fr_ (σ (m + 4)) 4) (fr_ (σ (m + 2)) 38) e k), .int (nI k)] [] ((S, fr), σ, τ) (fun r M' => r = some (.int (leF (fr_ (σ (m + 4)) 4) (fr_ (σ (m + 2)) 38) e nS)) ∧ ((S, fr), σ, τ) = M')
  | n, k, h => by
    refine S_X9_lengthOf_4 ?_
    simp only [T_X9_lengthOf_4, fi_const, fi_iload, fi_aload, fi_istore, fi_astore, fi_iinc, fi_bin, fi_div, fi_un, fi_dup, fi_dup2, fi_pop, fi_if, fi_cmp, fi_getf, fi_putf, fi_putr, fi_ald, fi_ast, fi_alen, fi_iret, fi_zret, fi_vret, fi_cut, fi_no, fi_s0, fi_s1, fi_s2, fi_s3, fi_s4, fi_v0, fi_v1, fi_v2, fi_v3, fi_v4, fi_v5, fi_n0, fi_n1, fi_n2, fi_mm, fi_stat, fi_alds, fi_tsw, List.getElem?_cons_zero, List.getElem?_cons_succ, List.set_cons_zero, List.set_cons_succ, List.length_cons, List.length_nil, Option.toList_some, Option.toList_none, List.cons_append, List.nil_append, Value.category, true_and, k_0, k_1, k_2, k_3, k_4, false_implies, true_implies, reduceCtorEq, hM.1, hM.2.2.1, k_82, hc]
    refine ⟨pk_in 82 83 (by decide), pk_le nS k (fun _ => ?_) (fun h2 => ⟨by decide, ⟨_, rfl⟩, (c_isOn hM (by omega) _).mono ?_⟩)⟩
    · rw [show nS = k by omega]; exact ⟨rfl, trivial⟩
    · obtain ⟨n', rfl⟩ : ∃ n', n = n' + 1 := ⟨n - 1, by omega⟩
      rintro r M' ⟨rfl, rfl⟩
      simp only [fi_const, fi_iload, fi_aload, fi_istore, fi_astore, fi_iinc, fi_bin, fi_div, fi_un, fi_dup, fi_dup2, fi_pop, fi_if, fi_cmp, fi_getf, fi_putf, fi_putr, fi_ald, fi_ast, fi_alen, fi_iret, fi_zret, fi_vret, fi_cut, fi_no, fi_s0, fi_s1, fi_s2, fi_s3, fi_s4, fi_v0, fi_v1, fi_v2, fi_v3, fi_v4, fi_v5, fi_n0, fi_n1, fi_n2, fi_mm, fi_stat, fi_alds, fi_tsw, List.getElem?_cons_zero, List.getElem?_cons_succ, List.set_cons_zero, List.set_cons_succ, List.length_cons, List.length_nil, Option.toList_some, Option.toList_none, List.cons_append, List.nil_append, Value.category, true_and, k_0, k_1, k_2, k_3, k_4, false_implies, true_implies, reduceCtorEq, bI_eq0, decide_eq_false_iff_not, nI_1, Int32.add_zero, hM.1, hM.2.2.1, li_38, nI_clamp (show 38 + k < 2 ^ 31 by omega)]
      have := l_lengthOf hM hnS hc e n' (k + 1) (by omega)
      refine ⟨fun q => ?_, fun q => ⟨vp_in_nI (by omega) (by decide), ?_⟩⟩
      · rw [leF, if_neg q] at this; exact this
      · rw [leF, if_pos (Decidable.of_not_not q)] at this; exact this
theorem c_lengthOf (hM : shM S m) {nS : Nat} (hnS : nS ≤ 14) (hc : σ (m + 2) 82 = nI nS) (e : Nat) : fs_Ct g m_X9_lengthOf [.ref m, .int (nI e)] ((S, fr), σ, τ) (fun r M' => r = some (.int (leF (fr_ (σ (m + 4)) 4) (fr_ (σ (m + 2)) 38) e nS)) ∧ ((S, fr), σ, τ) = M') := by
  refine fs_enterC (by decide) (by simp [fs_ok]) (Nat.le_of_ble_eq_true rfl) (fun d => S_X9_lengthOf_0 ?_)
  show T_X9_lengthOf_0 g d _ [.ref m, .int (nI e), .null, .null] [] _
  simp only [T_X9_lengthOf_0, fi_const, fi_iload, fi_aload, fi_istore, fi_astore, fi_iinc, fi_bin, fi_div, fi_un, fi_dup, fi_dup2, fi_pop, fi_if, fi_cmp, fi_getf, fi_putf, fi_putr, fi_ald, fi_ast, fi_alen, fi_iret, fi_zret, fi_vret, fi_cut, fi_no, fi_s0, fi_s1, fi_s2, fi_s3, fi_s4, fi_v0, fi_v1, fi_v2, fi_v3, fi_v4, fi_v5, fi_n0, fi_n1, fi_n2, fi_mm, fi_stat, fi_alds, fi_tsw, List.getElem?_cons_zero, List.getElem?_cons_succ, List.set_cons_zero, List.set_cons_succ, List.length_cons, List.length_nil, Option.toList_some, Option.toList_none, List.cons_append, List.nil_append, Value.category, true_and, k_0, k_1, k_2, k_3, k_4, false_implies, true_implies, reduceCtorEq]
  exact l_lengthOf hM hnS hc e nS 0 (by omega)
theorem l_castOf (hM : shM S m) {nS : Nat} (hnS : nS ≤ 14) (hc : σ (m + 2) 82 = nI nS) (e : Nat) : ∀ n k, k + n = nS → fs_R g m_X9_castOf d (0, 0) 4 [.ref m, .int (nI e), .int (caF (fr_ (σ (m + 4)) 4) (fr_ (σ (m + 2)) 66) e k), .int (nI k)] [] ((S, fr), σ, τ) (fun r M' => r = some (.int (caF (fr_ (σ (m + 4)) 4) (fr_ (σ (m + 2)) 66) e nS)) ∧ ((S, fr), σ, τ) = M')
  | n, k, h => by
    refine S_X9_castOf_4 ?_
    simp only [T_X9_castOf_4, fi_const, fi_iload, fi_aload, fi_istore, fi_astore, fi_iinc, fi_bin, fi_div, fi_un, fi_dup, fi_dup2, fi_pop, fi_if, fi_cmp, fi_getf, fi_putf, fi_putr, fi_ald, fi_ast, fi_alen, fi_iret, fi_zret, fi_vret, fi_cut, fi_no, fi_s0, fi_s1, fi_s2, fi_s3, fi_s4, fi_v0, fi_v1, fi_v2, fi_v3, fi_v4, fi_v5, fi_n0, fi_n1, fi_n2, fi_mm, fi_stat, fi_alds, fi_tsw, List.getElem?_cons_zero, List.getElem?_cons_succ, List.set_cons_zero, List.set_cons_succ, List.length_cons, List.length_nil, Option.toList_some, Option.toList_none, List.cons_append, List.nil_append, Value.category, true_and, k_0, k_1, k_2, k_3, k_4, false_implies, true_implies, reduceCtorEq, hM.1, hM.2.2.1, k_82, hc]
    refine ⟨pk_in 82 83 (by decide), pk_le nS k (fun _ => ?_) (fun h2 => ⟨by decide, ⟨_, rfl⟩, (c_isOn hM (by omega) _).mono ?_⟩)⟩
    · rw [show nS = k by omega]; exact ⟨rfl, trivial⟩
    · obtain ⟨n', rfl⟩ : ∃ n', n = n' + 1 := ⟨n - 1, by omega⟩
      rintro r M' ⟨rfl, rfl⟩
      simp only [fi_const, fi_iload, fi_aload, fi_istore, fi_astore, fi_iinc, fi_bin, fi_div, fi_un, fi_dup, fi_dup2, fi_pop, fi_if, fi_cmp, fi_getf, fi_putf, fi_putr, fi_ald, fi_ast, fi_alen, fi_iret, fi_zret, fi_vret, fi_cut, fi_no, fi_s0, fi_s1, fi_s2, fi_s3, fi_s4, fi_v0, fi_v1, fi_v2, fi_v3, fi_v4, fi_v5, fi_n0, fi_n1, fi_n2, fi_mm, fi_stat, fi_alds, fi_tsw, List.getElem?_cons_zero, List.getElem?_cons_succ, List.set_cons_zero, List.set_cons_succ, List.length_cons, List.length_nil, Option.toList_some, Option.toList_none, List.cons_append, List.nil_append, Value.category, true_and, k_0, k_1, k_2, k_3, k_4, false_implies, true_implies, reduceCtorEq, bI_eq0, decide_eq_false_iff_not, nI_1, or0, hM.1, hM.2.2.1, li_66, nI_clamp (show 66 + k < 2 ^ 31 by omega)]
      have := l_castOf hM hnS hc e n' (k + 1) (by omega)
      refine ⟨fun q => ?_, fun q => ⟨vp_in_nI (by omega) (by decide), ?_⟩⟩
      · rw [caF, if_neg q] at this; exact this
      · rw [caF, if_pos (Decidable.of_not_not q)] at this; exact this
theorem c_castOf (hM : shM S m) {nS : Nat} (hnS : nS ≤ 14) (hc : σ (m + 2) 82 = nI nS) (e : Nat) : fs_Ct g m_X9_castOf [.ref m, .int (nI e)] ((S, fr), σ, τ) (fun r M' => r = some (.int (caF (fr_ (σ (m + 4)) 4) (fr_ (σ (m + 2)) 66) e nS)) ∧ ((S, fr), σ, τ) = M') := by
  refine fs_enterC (by decide) (by simp [fs_ok]) (Nat.le_of_ble_eq_true rfl) (fun d => S_X9_castOf_0 ?_)
  show T_X9_castOf_0 g d _ [.ref m, .int (nI e), .null, .null] [] _
  simp only [T_X9_castOf_0, fi_const, fi_iload, fi_aload, fi_istore, fi_astore, fi_iinc, fi_bin, fi_div, fi_un, fi_dup, fi_dup2, fi_pop, fi_if, fi_cmp, fi_getf, fi_putf, fi_putr, fi_ald, fi_ast, fi_alen, fi_iret, fi_zret, fi_vret, fi_cut, fi_no, fi_s0, fi_s1, fi_s2, fi_s3, fi_s4, fi_v0, fi_v1, fi_v2, fi_v3, fi_v4, fi_v5, fi_n0, fi_n1, fi_n2, fi_mm, fi_stat, fi_alds, fi_tsw, List.getElem?_cons_zero, List.getElem?_cons_succ, List.set_cons_zero, List.set_cons_succ, List.length_cons, List.length_nil, Option.toList_some, Option.toList_none, List.cons_append, List.nil_append, Value.category, true_and, k_0, k_1, k_2, k_3, k_4, false_implies, true_implies, reduceCtorEq]
  exact l_castOf hM hnS hc e nS 0 (by omega)
/-- nobody works by day behind a night of one's own: days from k on -/
def rsM (ni cs : Nat → Int32) : Nat → Nat → Bool
  | 0, _ => true
  | n + 1, k => if ni k = 1 ∧ ¬ ni (k + 1) = 1 ∧ ¬ cs k &&& cs (k + 1) = 0 then false else rsM ni cs n (k + 1)
theorem l_isRested (hM : shM S m) {nS : Nat} (hnS : nS ≤ 14) (hc : σ (m + 2) 82 = nI nS) : ∀ n k, k + n = 11 → fs_R g m_X9_isRested d (0, 0) 2 [.ref m, .int (nI (k + 1))] [] ((S, fr), σ, τ) (fun r M' => r = some (.int (bI (rsM (pnF (fr_ (σ (m + 4)) 4) (fr_ (σ (m + 2)) 52) nS) (fun e => caF (fr_ (σ (m + 4)) 4) (fr_ (σ (m + 2)) 66) e nS) n k))) ∧ ((S, fr), σ, τ) = M')
  | 0, k, h => by
    refine S_X9_isRested_2 ?_
    simp only [T_X9_isRested_2, fi_const, fi_iload, fi_aload, fi_istore, fi_astore, fi_iinc, fi_bin, fi_div, fi_un, fi_dup, fi_dup2, fi_pop, fi_if, fi_cmp, fi_getf, fi_putf, fi_putr, fi_ald, fi_ast, fi_alen, fi_iret, fi_zret, fi_vret, fi_cut, fi_no, fi_s0, fi_s1, fi_s2, fi_s3, fi_s4, fi_v0, fi_v1, fi_v2, fi_v3, fi_v4, fi_v5, fi_n0, fi_n1, fi_n2, fi_mm, fi_stat, fi_alds, fi_tsw, List.getElem?_cons_zero, List.getElem?_cons_succ, List.set_cons_zero, List.set_cons_succ, List.length_cons, List.length_nil, Option.toList_some, Option.toList_none, List.cons_append, List.nil_append, Value.category, true_and, k_0, k_1, k_2, k_3, k_4, false_implies, true_implies, reduceCtorEq]
    refine pk_le 12 (k + 1) (fun _ => ?_) (fun h2 => by omega)
    simp [rsM, bI]
  | n + 1, k, h => by
    have ih := l_isRested hM hnS hc n (k + 1) (by omega)
    refine S_X9_isRested_2 ?_
    simp only [T_X9_isRested_2, fi_const, fi_iload, fi_aload, fi_istore, fi_astore, fi_iinc, fi_bin, fi_div, fi_un, fi_dup, fi_dup2, fi_pop, fi_if, fi_cmp, fi_getf, fi_putf, fi_putr, fi_ald, fi_ast, fi_alen, fi_iret, fi_zret, fi_vret, fi_cut, fi_no, fi_s0, fi_s1, fi_s2, fi_s3, fi_s4, fi_v0, fi_v1, fi_v2, fi_v3, fi_v4, fi_v5, fi_n0, fi_n1, fi_n2, fi_mm, fi_stat, fi_alds, fi_tsw, List.getElem?_cons_zero, List.getElem?_cons_succ, List.set_cons_zero, List.set_cons_succ, List.length_cons, List.length_nil, Option.toList_some, Option.toList_none, List.cons_append, List.nil_append, Value.category, true_and, k_0, k_1, k_2, k_3, k_4, false_implies, true_implies, reduceCtorEq, nI_pred, nI_1]
    refine pk_le 12 (k + 1) (fun h2 => by omega) (fun h2 => ⟨by decide, ⟨_, hM.1⟩, (c_isNightOf hM hnS hc k).mono ?_⟩)
    rintro r M' ⟨rfl, rfl⟩
    simp only [fi_const, fi_iload, fi_aload, fi_istore, fi_astore, fi_iinc, fi_bin, fi_div, fi_un, fi_dup, fi_dup2, fi_pop, fi_if, fi_cmp, fi_getf, fi_putf, fi_putr, fi_ald, fi_ast, fi_alen, fi_iret, fi_zret, fi_vret, fi_cut, fi_no, fi_s0, fi_s1, fi_s2, fi_s3, fi_s4, fi_v0, fi_v1, fi_v2, fi_v3, fi_v4, fi_v5, fi_n0, fi_n1, fi_n2, fi_mm, fi_stat, fi_alds, fi_tsw, List.getElem?_cons_zero, List.getElem?_cons_succ, List.set_cons_zero, List.set_cons_succ, List.length_cons, List.length_nil, Option.toList_some, Option.toList_none, List.cons_append, List.nil_append, Value.category, true_and, k_0, k_1, k_2, k_3, k_4, false_implies, true_implies, reduceCtorEq, bI_eq0, decide_eq_false_iff_not]
    refine ⟨fun q => ?_, fun q => ⟨by decide, ⟨_, hM.1⟩, (c_isNightOf hM hnS hc (k + 1)).mono ?_⟩⟩
    · rw [rsM, if_neg (fun z => q z.1)]; exact ih
    · rintro r M' ⟨rfl, rfl⟩
      simp only [fi_const, fi_iload, fi_aload, fi_istore, fi_astore, fi_iinc, fi_bin, fi_div, fi_un, fi_dup, fi_dup2, fi_pop, fi_if, fi_cmp, fi_getf, fi_putf, fi_putr, fi_ald, fi_ast, fi_alen, fi_iret, fi_zret, fi_vret, fi_cut, fi_no, fi_s0, fi_s1, fi_s2, fi_s3, fi_s4, fi_v0, fi_v1, fi_v2, fi_v3, fi_v4, fi_v5, fi_n0, fi_n1, fi_n2, fi_mm, fi_stat, fi_alds, fi_tsw, List.getElem?_cons_zero, List.getElem?_cons_succ, List.set_cons_zero, List.set_cons_succ, List.length_cons, List.length_nil, Option.toList_some, Option.toList_none, List.cons_append, List.nil_append, Value.category, true_and, k_0, k_1, k_2, k_3, k_4, false_implies, true_implies, reduceCtorEq, bI_eq0, decide_eq_false_iff_not, nI_pred]
      refine ⟨fun q2 => ⟨by decide, ⟨_, hM.1⟩, (c_castOf hM hnS hc k).mono ?_⟩, fun q2 => ?_⟩
      · rintro r M' ⟨rfl, rfl⟩
        simp only [fi_const, fi_iload, fi_aload, fi_istore, fi_astore, fi_iinc, fi_bin, fi_div, fi_un, fi_dup, fi_dup2, fi_pop, fi_if, fi_cmp, fi_getf, fi_putf, fi_putr, fi_ald, fi_ast, fi_alen, fi_iret, fi_zret, fi_vret, fi_cut, fi_no, fi_s0, fi_s1, fi_s2, fi_s3, fi_s4, fi_v0, fi_v1, fi_v2, fi_v3, fi_v4, fi_v5, fi_n0, fi_n1, fi_n2, fi_mm, fi_stat, fi_alds, fi_tsw, List.getElem?_cons_zero, List.getElem?_cons_succ, List.set_cons_zero, List.set_cons_succ, List.length_cons, List.length_nil, Option.toList_some, Option.toList_none, List.cons_append, List.nil_append, Value.category, true_and, k_0, k_1, k_2, k_3, k_4, false_implies, true_implies, reduceCtorEq]
        refine ⟨by decide, ⟨_, hM.1⟩, (c_castOf hM hnS hc (k + 1)).mono ?_⟩
        rintro r M' ⟨rfl, rfl⟩
        simp only [fi_const, fi_iload, fi_aload, fi_istore, fi_astore, fi_iinc, fi_bin, fi_div, fi_un, fi_dup, fi_dup2, fi_pop, fi_if, fi_cmp, fi_getf, fi_putf, fi_putr, fi_ald, fi_ast, fi_alen, fi_iret, fi_zret, fi_vret, fi_cut, fi_no, fi_s0, fi_s1, fi_s2, fi_s3, fi_s4, fi_v0, fi_v1, fi_v2, fi_v3, fi_v4, fi_v5, fi_n0, fi_n1, fi_n2, fi_mm, fi_stat, fi_alds, fi_tsw, List.getElem?_cons_zero, List.getElem?_cons_succ, List.set_cons_zero, List.set_cons_succ, List.length_cons, List.length_nil, Option.toList_some, Option.toList_none, List.cons_append, List.nil_append, Value.category, true_and, k_0, k_1, k_2, k_3, k_4, false_implies, true_implies, reduceCtorEq, nI_1]
        refine ⟨fun q3 => ?_, fun q3 => ?_⟩
        · rw [rsM, if_neg (fun z => z.2.2 q3)]; exact ih
        · rw [rsM, if_pos ⟨Decidable.of_not_not q, q2, q3⟩]
          simp [bI]
      · rw [rsM, if_neg (fun z => q2 z.2.1)]; exact ih
theorem c_isRested (hM : shM S m) {nS : Nat} (hnS : nS ≤ 14) (hc : σ (m + 2) 82 = nI nS) : fs_Ct g m_X9_isRested [.ref m] ((S, fr), σ, τ) (fun r M' => r = some (.int (bI (rsM (pnF (fr_ (σ (m + 4)) 4) (fr_ (σ (m + 2)) 52) nS) (fun e => caF (fr_ (σ (m + 4)) 4) (fr_ (σ (m + 2)) 66) e nS) 11 0))) ∧ ((S, fr), σ, τ) = M') := by
  refine fs_enterC (by decide) (by simp [fs_ok]) (Nat.le_of_ble_eq_true rfl) (fun d => S_X9_isRested_0 ?_)
  show T_X9_isRested_0 g d _ [.ref m, .null] [] _
  simp only [T_X9_isRested_0, fi_const, fi_iload, fi_aload, fi_istore, fi_astore, fi_iinc, fi_bin, fi_div, fi_un, fi_dup, fi_dup2, fi_pop, fi_if, fi_cmp, fi_getf, fi_putf, fi_putr, fi_ald, fi_ast, fi_alen, fi_iret, fi_zret, fi_vret, fi_cut, fi_no, fi_s0, fi_s1, fi_s2, fi_s3, fi_s4, fi_v0, fi_v1, fi_v2, fi_v3, fi_v4, fi_v5, fi_n0, fi_n1, fi_n2, fi_mm, fi_stat, fi_alds, fi_tsw, List.getElem?_cons_zero, List.getElem?_cons_succ, List.set_cons_zero, List.set_cons_succ, List.length_cons, List.length_nil, Option.toList_some, Option.toList_none, List.cons_append, List.nil_append, Value.category, true_and, k_0, k_1, k_2, k_3, k_4, false_implies, true_implies, reduceCtorEq]
  exact l_isRested hM hnS hc 11 0 rfl
end PM
