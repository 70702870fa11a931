/-! ===== the reference: the table of an actor ===== -/
def gpG (f : Nat → Bool) : Nat → Nat → Int32 → Int32 → Int32 → Int32 × Int32
  | 0, _, gF, gL, _ => (gF, gL)
  | n + 1, k, gF, gL, la => if f k then (if la = -1 then gpG f n (k + 1) gF gL (nI k) else if nI k - la - 1 ≤ gL then gpG f n (k + 1) gF gL (nI k) else gpG f n (k + 1) (la + 1) (nI k - la - 1) (nI k)) else gpG f n (k + 1) gF gL la
def gpB (f : Nat → Bool) : Int32 × Int32 := gpG f 12 0 (-1) 0 (-1)
def stM (f : Nat → Bool) (gF gL drop : Int32) (k : Nat) : Int32 :=
  if f k then 1 else if fstB f 12 0 = -1 then 0 else if nI k < fstB f 12 0 then 0 else if ¬ nI k ≤ lstB f 12 then 0 else if gL < drop then 2 else if nI k < gF then 2 else if gF + gL ≤ nI k then 2 else 3
def seM (q : Nat → Bool) : Nat → Nat → Int32 → Int32
  | 0, _, s => s
  | n + 1, k, s => seM q n (k + 1) (if q k then s + 1 else s)
theorem seM_ct {q : Nat → Bool} : ∀ n k, k + n = 12 → seM q n k (nI (ct q k)) = nI (ct q 12)
  | 0, k, h => by rw [show k = 12 by omega]; rfl
  | n + 1, k, h => by
    have := seM_ct (q := q) n (k + 1) (by omega)
    simp only [seM, ct] at this ⊢
    by_cases e : q k = true
    · rw [if_pos e] at this ⊢; rw [nI_1]; exact this
    · rw [if_neg e] at this ⊢; exact this
theorem li_18 (k : Nat) : (18 : Int32) + nI k = nI (18 + k) := nI_add 18 k
theorem fs_R_mono {g : fs_G} {μ : fs_I} {d : Nat} {u : Nat × Nat} {pc : Nat} {ls st : List Value} {M : fs_M} {Q Q' : Option Value → fs_M → Prop} (h : fs_R g μ d u pc ls st M Q) (hQ : ∀ r M', Q r M' → Q' r M') : fs_R g μ d u pc ls st M Q' := by
  intro p e R s m args below meth c H locs lsA C hS hW hL T hT X
  obtain ⟨t, a, o, b1, b2, ⟨⟨r, M', e1, e2, e3⟩, e4⟩, b4⟩ := h p e R s m args below meth c H locs lsA C hS hW hL T hT X
  exact ⟨t, a, o, b1, b2, ⟨⟨r, M', e1, hQ r M' e2, e3⟩, e4⟩, b4⟩
section PM3
variable {g : fs_G} {d : Nat} {S : List fs_Sh} {fr : Bool} {σ : Nat → Nat → Int32} {τ : Nat → Nat → Int64} {m : Nat}
/-- the casts of the days are laid -/
def laid (σ : Nat → Nat → Int32) (m nS : Nat) : Prop := ∀ e, e < 12 → σ (m + 8) e = caF (fr_ (σ (m + 4)) 4) (fr_ (σ (m + 2)) 66) e nS
theorem l_laysCasts (hM : shM S m) {nS : Nat} (hnS : nS ≤ 14) (σ0 : Nat → Nat → Int32) (hc : σ0 (m + 2) 82 = nI nS) : ∀ n k σ, k + n = 12 → same σ0 σ (fun a => a = m + 8) → (∀ e, e < k → σ (m + 8) e = caF (fr_ (σ0 (m + 4)) 4) (fr_ (σ0 (m + 2)) 66) e nS) → fs_R g m_X9_laysCasts d (0, 0) 2 [.ref m, .int (nI k)] [] ((S, fr), σ, τ) (fun r M' => r = none ∧ ∃ σ', M' = ((S, fr), σ', τ) ∧ same σ0 σ' (fun a => a = m + 8) ∧ laid σ' m nS)
  | n, k, σ, h, hs, hv => by
    have f2 : σ (m + 2) = σ0 (m + 2) := hs _ (by omega)
    have f4 : σ (m + 4) = σ0 (m + 4) := hs _ (by omega)
    refine S_X9_laysCasts_2 ?_
    simp only [T_X9_laysCasts_2, fi_const, fi_iload, fi_aload, fi_istore, fi_astore, fi_iinc, fi_bin, fi_div, fi_un, fi_dup, fi_dup2, fi_pop, fi_if, fi_cmp, fi_getf, fi_putf, fi_putr, fi_ald, fi_ast, fi_alen, fi_iret, fi_zret, fi_vret, fi_cut, fi_no, fi_s0, fi_s1, fi_s2, fi_s3, fi_s4, fi_v0, fi_v1, fi_v2, fi_v3, fi_v4, fi_v5, fi_n0, fi_n1, fi_n2, fi_mm, fi_stat, fi_alds, fi_tsw, List.getElem?_cons_zero, List.getElem?_cons_succ, List.set_cons_zero, List.set_cons_succ, List.length_cons, List.length_nil, Option.toList_some, Option.toList_none, List.cons_append, List.nil_append, Value.category, true_and, k_0, k_1, k_2, k_3, k_4, false_implies, true_implies, reduceCtorEq, hM.1]
    refine pk_le 12 k (fun _ => ?_) (fun h2 => ⟨by decide, ⟨_, rfl⟩, (c_castOf hM hnS (by rw [f2]; exact hc) k).mono ?_⟩)
    · refine ⟨σ, rfl, hs, fun e he => ?_⟩
      rw [f2, f4]; exact hv e (by omega)
    · obtain ⟨n', rfl⟩ : ∃ n', n = n' + 1 := ⟨n - 1, by omega⟩
      rintro r M' ⟨rfl, rfl⟩
      simp only [fi_const, fi_iload, fi_aload, fi_istore, fi_astore, fi_iinc, fi_bin, fi_div, fi_un, fi_dup, fi_dup2, fi_pop, fi_if, fi_cmp, fi_getf, fi_putf, fi_putr, fi_ald, fi_ast, fi_alen, fi_iret, fi_zret, fi_vret, fi_cut, fi_no, fi_s0, fi_s1, fi_s2, fi_s3, fi_s4, fi_v0, fi_v1, fi_v2, fi_v3, fi_v4, fi_v5, fi_n0, fi_n1, fi_n2, fi_mm, fi_stat, fi_alds, fi_tsw, List.getElem?_cons_zero, List.getElem?_cons_succ, List.set_cons_zero, List.set_cons_succ, List.length_cons, List.length_nil, Option.toList_some, Option.toList_none, List.cons_append, List.nil_append, Value.category, true_and, k_0, k_1, k_2, k_3, k_4, false_implies, true_implies, reduceCtorEq, hM.2.2.2.2.2.2.2.2.1, nI_clamp (show k < 2 ^ 31 by omega), nI_1, nar_int, f2, f4]
      refine ⟨vp_in_nI (by omega) (by decide), l_laysCasts hM hnS σ0 hc n' (k + 1) _ (by omega) (same_uu hs rfl) (fun e he => ?_)⟩
      rw [u_at]
      by_cases q : e = k
      · rw [if_pos q, q]
      · rw [if_neg q]; exact hv e (by omega)
theorem c_laysCasts (hM : shM S m) {nS : Nat} (hnS : nS ≤ 14) (hc : σ (m + 2) 82 = nI nS) : fs_Ct g m_X9_laysCasts [.ref m] ((S, fr), σ, τ) (fun r M' => r = none ∧ ∃ σ', M' = ((S, fr), σ', τ) ∧ same σ σ' (fun a => a = m + 8) ∧ laid σ' m nS) := by
  refine fs_enterC (by decide) (by simp [fs_ok]) (Nat.le_of_ble_eq_true rfl) (fun d => S_X9_laysCasts_0 ?_)
  show T_X9_laysCasts_0 g d _ [.ref m, .null] [] _
  simp only [T_X9_laysCasts_0, fi_const, fi_iload, fi_aload, fi_istore, fi_astore, fi_iinc, fi_bin, fi_div, fi_un, fi_dup, fi_dup2, fi_pop, fi_if, fi_cmp, fi_getf, fi_putf, fi_putr, fi_ald, fi_ast, fi_alen, fi_iret, fi_zret, fi_vret, fi_cut, fi_no, fi_s0, fi_s1, fi_s2, fi_s3, fi_s4, fi_v0, fi_v1, fi_v2, fi_v3, fi_v4, fi_v5, fi_n0, fi_n1, fi_n2, fi_mm, fi_stat, fi_alds, fi_tsw, List.getElem?_cons_zero, List.getElem?_cons_succ, List.set_cons_zero, List.set_cons_succ, List.length_cons, List.length_nil, Option.toList_some, Option.toList_none, List.cons_append, List.nil_append, Value.category, true_and, k_0, k_1, k_2, k_3, k_4, false_implies, true_implies, reduceCtorEq]
  exact l_laysCasts hM hnS σ hc 12 0 σ rfl same.rf (fun e he => by omega)
theorem c_works (hM : shM S m) {a k : Nat} (ha : a < 32) (hk : k < 12) : fs_Ct g m_X9_works [.ref m, .int (nI a), .int (nI k)] ((S, fr), σ, τ) (fun r M' => r = some (.int (bI (wkF (σ (m + 8)) a k))) ∧ ((S, fr), σ, τ) = M') := by
  refine fs_enterC (by decide) (by simp [fs_ok]) (Nat.le_of_ble_eq_true rfl) (fun d => S_X9_works_0 ?_)
  show T_X9_works_0 g d _ [.ref m, .int (nI a), .int (nI k)] [] _
  simp only [T_X9_works_0, fi_const, fi_iload, fi_aload, fi_istore, fi_astore, fi_iinc, fi_bin, fi_div, fi_un, fi_dup, fi_dup2, fi_pop, fi_if, fi_cmp, fi_getf, fi_putf, fi_putr, fi_ald, fi_ast, fi_alen, fi_iret, fi_zret, fi_vret, fi_cut, fi_no, fi_s0, fi_s1, fi_s2, fi_s3, fi_s4, fi_v0, fi_v1, fi_v2, fi_v3, fi_v4, fi_v5, fi_n0, fi_n1, fi_n2, fi_mm, fi_stat, fi_alds, fi_tsw, List.getElem?_cons_zero, List.getElem?_cons_succ, List.set_cons_zero, List.set_cons_succ, List.length_cons, List.length_nil, Option.toList_some, Option.toList_none, List.cons_append, List.nil_append, Value.category, true_and, k_0, k_1, k_2, k_3, k_4, false_implies, true_implies, reduceCtorEq]
  simp only [hM.1, hM.2.2.2.2.2.2.2.2.1, fi_const, fi_iload, fi_aload, fi_istore, fi_astore, fi_iinc, fi_bin, fi_div, fi_un, fi_dup, fi_dup2, fi_pop, fi_if, fi_cmp, fi_getf, fi_putf, fi_putr, fi_ald, fi_ast, fi_alen, fi_iret, fi_zret, fi_vret, fi_cut, fi_no, fi_s0, fi_s1, fi_s2, fi_s3, fi_s4, fi_v0, fi_v1, fi_v2, fi_v3, fi_v4, fi_v5, fi_n0, fi_n1, fi_n2, fi_mm, fi_stat, fi_alds, fi_tsw, List.getElem?_cons_zero, List.getElem?_cons_succ, List.set_cons_zero, List.set_cons_succ, List.length_cons, List.length_nil, Option.toList_some, Option.toList_none, List.cons_append, List.nil_append, Value.category, true_and, k_0, k_1, k_2, k_3, k_4, false_implies, true_implies, reduceCtorEq, nI_clamp (show k < 2 ^ 31 by omega), bt_has1 ha, wkF]
  refine ⟨vp_in_nI hk (by decide), ?_⟩
  cases bt (σ (m + 8) k) a <;> simp [bI]
theorem l_firstOf (hM : shM S m) {a : Nat} (ha : a < 32) : ∀ n k, k + n = 12 → fs_R g m_X9_firstOf d (0, 0) 2 [.ref m, .int (nI a), .int (nI k)] [] ((S, fr), σ, τ) (fun r M' => r = some (.int (fstB (wkF (σ (m + 8)) a) n k)) ∧ ((S, fr), σ, τ) = M')
  | 0, k, h => by
    refine S_X9_firstOf_2 ?_
    simp only [T_X9_firstOf_2, fi_const, fi_iload, fi_aload, fi_istore, fi_astore, fi_iinc, fi_bin, fi_div, fi_un, fi_dup, fi_dup2, fi_pop, fi_if, fi_cmp, fi_getf, fi_putf, fi_putr, fi_ald, fi_ast, fi_alen, fi_iret, fi_zret, fi_vret, fi_cut, fi_no, fi_s0, fi_s1, fi_s2, fi_s3, fi_s4, fi_v0, fi_v1, fi_v2, fi_v3, fi_v4, fi_v5, fi_n0, fi_n1, fi_n2, fi_mm, fi_stat, fi_alds, fi_tsw, List.getElem?_cons_zero, List.getElem?_cons_succ, List.set_cons_zero, List.set_cons_succ, List.length_cons, List.length_nil, Option.toList_some, Option.toList_none, List.cons_append, List.nil_append, Value.category, true_and, k_0, k_1, k_2, k_3, k_4, false_implies, true_implies, reduceCtorEq]
    refine pk_le 12 k (fun _ => ?_) (fun h2 => by omega)
    simp [fstB]
  | n + 1, k, h => by
    refine S_X9_firstOf_2 ?_
    simp only [T_X9_firstOf_2, fi_const, fi_iload, fi_aload, fi_istore, fi_astore, fi_iinc, fi_bin, fi_div, fi_un, fi_dup, fi_dup2, fi_pop, fi_if, fi_cmp, fi_getf, fi_putf, fi_putr, fi_ald, fi_ast, fi_alen, fi_iret, fi_zret, fi_vret, fi_cut, fi_no, fi_s0, fi_s1, fi_s2, fi_s3, fi_s4, fi_v0, fi_v1, fi_v2, fi_v3, fi_v4, fi_v5, fi_n0, fi_n1, fi_n2, fi_mm, fi_stat, fi_alds, fi_tsw, List.getElem?_cons_zero, List.getElem?_cons_succ, List.set_cons_zero, List.set_cons_succ, List.length_cons, List.length_nil, Option.toList_some, Option.toList_none, List.cons_append, List.nil_append, Value.category, true_and, k_0, k_1, k_2, k_3, k_4, false_implies, true_implies, reduceCtorEq]
    refine pk_le 12 k (fun h2 => by omega) (fun _ => ⟨by decide, ⟨_, hM.1⟩, (c_works hM ha (by omega)).mono ?_⟩)
    rintro r M' ⟨rfl, rfl⟩
    simp only [fi_const, fi_iload, fi_aload, fi_istore, fi_astore, fi_iinc, fi_bin, fi_div, fi_un, fi_dup, fi_dup2, fi_pop, fi_if, fi_cmp, fi_getf, fi_putf, fi_putr, fi_ald, fi_ast, fi_alen, fi_iret, fi_zret, fi_vret, fi_cut, fi_no, fi_s0, fi_s1, fi_s2, fi_s3, fi_s4, fi_v0, fi_v1, fi_v2, fi_v3, fi_v4, fi_v5, fi_n0, fi_n1, fi_n2, fi_mm, fi_stat, fi_alds, fi_tsw, List.getElem?_cons_zero, List.getElem?_cons_succ, List.set_cons_zero, List.set_cons_succ, List.length_cons, List.length_nil, Option.toList_some, Option.toList_none, List.cons_append, List.nil_append, Value.category, true_and, k_0, k_1, k_2, k_3, k_4, false_implies, true_implies, reduceCtorEq, bI_eq0, nI_1]
    refine ⟨fun q => ?_, fun q => ?_⟩
    · rw [fstB, if_neg (by simp [q])]; exact l_firstOf hM ha n (k + 1) (by omega)
    · simp [fstB, q]
theorem c_firstOf (hM : shM S m) {a : Nat} (ha : a < 32) : fs_Ct g m_X9_firstOf [.ref m, .int (nI a)] ((S, fr), σ, τ) (fun r M' => r = some (.int (fstB (wkF (σ (m + 8)) a) 12 0)) ∧ ((S, fr), σ, τ) = M') := by
  refine fs_enterC (by decide) (by simp [fs_ok]) (Nat.le_of_ble_eq_true rfl) (fun d => S_X9_firstOf_0 ?_)
  show T_X9_firstOf_0 g d _ [.ref m, .int (nI a), .null] [] _
  simp only [T_X9_firstOf_0, fi_const, fi_iload, fi_aload, fi_istore, fi_astore, fi_iinc, fi_bin, fi_div, fi_un, fi_dup, fi_dup2, fi_pop, fi_if, fi_cmp, fi_getf, fi_putf, fi_putr, fi_ald, fi_ast, fi_alen, fi_iret, fi_zret, fi_vret, fi_cut, fi_no, fi_s0, fi_s1, fi_s2, fi_s3, fi_s4, fi_v0, fi_v1, fi_v2, fi_v3, fi_v4, fi_v5, fi_n0, fi_n1, fi_n2, fi_mm, fi_stat, fi_alds, fi_tsw, List.getElem?_cons_zero, List.getElem?_cons_succ, List.set_cons_zero, List.set_cons_succ, List.length_cons, List.length_nil, Option.toList_some, Option.toList_none, List.cons_append, List.nil_append, Value.category, true_and, k_0, k_1, k_2, k_3, k_4, false_implies, true_implies, reduceCtorEq]
  exact l_firstOf hM ha 12 0 rfl
theorem l_lastOf (hM : shM S m) {a : Nat} (ha : a < 32) : ∀ n, n ≤ 12 → fs_R g m_X9_lastOf d (0, 0) 3 [.ref m, .int (nI a), .int (nI n - 1)] [] ((S, fr), σ, τ) (fun r M' => r = some (.int (lstB (wkF (σ (m + 8)) a) n)) ∧ ((S, fr), σ, τ) = M')
  | 0, h => by
    refine S_X9_lastOf_3 ?_
    simp only [T_X9_lastOf_3, fi_const, fi_iload, fi_aload, fi_istore, fi_astore, fi_iinc, fi_bin, fi_div, fi_un, fi_dup, fi_dup2, fi_pop, fi_if, fi_cmp, fi_getf, fi_putf, fi_putr, fi_ald, fi_ast, fi_alen, fi_iret, fi_zret, fi_vret, fi_cut, fi_no, fi_s0, fi_s1, fi_s2, fi_s3, fi_s4, fi_v0, fi_v1, fi_v2, fi_v3, fi_v4, fi_v5, fi_n0, fi_n1, fi_n2, fi_mm, fi_stat, fi_alds, fi_tsw, List.getElem?_cons_zero, List.getElem?_cons_succ, List.set_cons_zero, List.set_cons_succ, List.length_cons, List.length_nil, Option.toList_some, Option.toList_none, List.cons_append, List.nil_append, Value.category, true_and, k_0, k_1, k_2, k_3, k_4, false_implies, true_implies, reduceCtorEq]
    refine ⟨fun _ => by simp [lstB], fun h2 => absurd (by decide) h2⟩
  | n + 1, h => by
    rw [nI_pred]
    refine S_X9_lastOf_3 ?_
    simp only [T_X9_lastOf_3, fi_const, fi_iload, fi_aload, fi_istore, fi_astore, fi_iinc, fi_bin, fi_div, fi_un, fi_dup, fi_dup2, fi_pop, fi_if, fi_cmp, fi_getf, fi_putf, fi_putr, fi_ald, fi_ast, fi_alen, fi_iret, fi_zret, fi_vret, fi_cut, fi_no, fi_s0, fi_s1, fi_s2, fi_s3, fi_s4, fi_v0, fi_v1, fi_v2, fi_v3, fi_v4, fi_v5, fi_n0, fi_n1, fi_n2, fi_mm, fi_stat, fi_alds, fi_tsw, List.getElem?_cons_zero, List.getElem?_cons_succ, List.set_cons_zero, List.set_cons_succ, List.length_cons, List.length_nil, Option.toList_some, Option.toList_none, List.cons_append, List.nil_append, Value.category, true_and, k_0, k_1, k_2, k_3, k_4, false_implies, true_implies, reduceCtorEq]
    refine ⟨fun h2 => absurd h2 (nI_pos (by omega)), fun _ => ⟨by decide, ⟨_, hM.1⟩, (c_works hM ha (by omega)).mono ?_⟩⟩
    rintro r M' ⟨rfl, rfl⟩
    simp only [fi_const, fi_iload, fi_aload, fi_istore, fi_astore, fi_iinc, fi_bin, fi_div, fi_un, fi_dup, fi_dup2, fi_pop, fi_if, fi_cmp, fi_getf, fi_putf, fi_putr, fi_ald, fi_ast, fi_alen, fi_iret, fi_zret, fi_vret, fi_cut, fi_no, fi_s0, fi_s1, fi_s2, fi_s3, fi_s4, fi_v0, fi_v1, fi_v2, fi_v3, fi_v4, fi_v5, fi_n0, fi_n1, fi_n2, fi_mm, fi_stat, fi_alds, fi_tsw, List.getElem?_cons_zero, List.getElem?_cons_succ, List.set_cons_zero, List.set_cons_succ, List.length_cons, List.length_nil, Option.toList_some, Option.toList_none, List.cons_append, List.nil_append, Value.category, true_and, k_0, k_1, k_2, k_3, k_4, false_implies, true_implies, reduceCtorEq, bI_eq0, m1_eq]
    refine ⟨fun q => ?_, fun q => ?_⟩
    · rw [lstB, if_neg (by simp [q])]; exact l_lastOf hM ha n (by omega)
    · simp [lstB, q]
theorem c_lastOf (hM : shM S m) {a : Nat} (ha : a < 32) : fs_Ct g m_X9_lastOf [.ref m, .int (nI a)] ((S, fr), σ, τ) (fun r M' => r = some (.int (lstB (wkF (σ (m + 8)) a) 12)) ∧ ((S, fr), σ, τ) = M') := by
  refine fs_enterC (by decide) (by simp [fs_ok]) (Nat.le_of_ble_eq_true rfl) (fun d => S_X9_lastOf_0 ?_)
  show T_X9_lastOf_0 g d _ [.ref m, .int (nI a), .null] [] _
  simp only [T_X9_lastOf_0, fi_const, fi_iload, fi_aload, fi_istore, fi_astore, fi_iinc, fi_bin, fi_div, fi_un, fi_dup, fi_dup2, fi_pop, fi_if, fi_cmp, fi_getf, fi_putf, fi_putr, fi_ald, fi_ast, fi_alen, fi_iret, fi_zret, fi_vret, fi_cut, fi_no, fi_s0, fi_s1, fi_s2, fi_s3, fi_s4, fi_v0, fi_v1, fi_v2, fi_v3, fi_v4, fi_v5, fi_n0, fi_n1, fi_n2, fi_mm, fi_stat, fi_alds, fi_tsw, List.getElem?_cons_zero, List.getElem?_cons_succ, List.set_cons_zero, List.set_cons_succ, List.length_cons, List.length_nil, Option.toList_some, Option.toList_none, List.cons_append, List.nil_append, Value.category, true_and, k_0, k_1, k_2, k_3, k_4, false_implies, true_implies, reduceCtorEq]
  exact l_lastOf hM ha 12 (Nat.le_refl _)
/-- only these slots of the object changed -/
def gapS (σ σ' : Nat → Nat → Int32) (m : Nat) : Prop := ∀ a b, ¬ (a = m ∧ (b = 23 ∨ b = 24)) → σ' a b = σ a b
theorem gapS.cell {σ σ' : Nat → Nat → Int32} {m a : Nat} (h : gapS σ σ' m) (ha : a ≠ m) : σ' a = σ a := by
  funext b
  exact h a b (fun z => ha z.1)
theorem l_findsGap (hM : shM S m) {a : Nat} (ha : a < 32) (σ0 : Nat → Nat → Int32) : ∀ n k la σ, k + n = 12 → gapS σ0 σ m → fs_R g m_X9_findsGap d (0, 0) 14 [.ref m, .int (nI a), .int la, .int (nI k)] [] ((S, fr), σ, τ) (fun r M' => r = none ∧ ∃ σ', M' = ((S, fr), σ', τ) ∧ gapS σ0 σ' m ∧ σ' m 23 = (gpG (wkF (σ0 (m + 8)) a) n k (σ m 23) (σ m 24) la).1 ∧ σ' m 24 = (gpG (wkF (σ0 (m + 8)) a) n k (σ m 23) (σ m 24) la).2)
  | 0, k, la, σ, h, hs => by
    refine S_X9_findsGap_14 ?_
    simp only [T_X9_findsGap_14, fi_const, fi_iload, fi_aload, fi_istore, fi_astore, fi_iinc, fi_bin, fi_div, fi_un, fi_dup, fi_dup2, fi_pop, fi_if, fi_cmp, fi_getf, fi_putf, fi_putr, fi_ald, fi_ast, fi_alen, fi_iret, fi_zret, fi_vret, fi_cut, fi_no, fi_s0, fi_s1, fi_s2, fi_s3, fi_s4, fi_v0, fi_v1, fi_v2, fi_v3, fi_v4, fi_v5, fi_n0, fi_n1, fi_n2, fi_mm, fi_stat, fi_alds, fi_tsw, List.getElem?_cons_zero, List.getElem?_cons_succ, List.set_cons_zero, List.set_cons_succ, List.length_cons, List.length_nil, Option.toList_some, Option.toList_none, List.cons_append, List.nil_append, Value.category, true_and, k_0, k_1, k_2, k_3, k_4, false_implies, true_implies, reduceCtorEq]
    refine pk_le 12 k (fun _ => ?_) (fun h2 => by omega)
    exact ⟨σ, rfl, hs, rfl, rfl⟩
  | n + 1, k, la, σ, h, hs => by
    have f8 : σ (m + 8) = σ0 (m + 8) := hs.cell (by omega)
    refine S_X9_findsGap_14 ?_
    simp only [T_X9_findsGap_14, fi_const, fi_iload, fi_aload, fi_istore, fi_astore, fi_iinc, fi_bin, fi_div, fi_un, fi_dup, fi_dup2, fi_pop, fi_if, fi_cmp, fi_getf, fi_putf, fi_putr, fi_ald, fi_ast, fi_alen, fi_iret, fi_zret, fi_vret, fi_cut, fi_no, fi_s0, fi_s1, fi_s2, fi_s3, fi_s4, fi_v0, fi_v1, fi_v2, fi_v3, fi_v4, fi_v5, fi_n0, fi_n1, fi_n2, fi_mm, fi_stat, fi_alds, fi_tsw, List.getElem?_cons_zero, List.getElem?_cons_succ, List.set_cons_zero, List.set_cons_succ, List.length_cons, List.length_nil, Option.toList_some, Option.toList_none, List.cons_append, List.nil_append, Value.category, true_and, k_0, k_1, k_2, k_3, k_4, false_implies, true_implies, reduceCtorEq]
    refine pk_le 12 k (fun h2 => by omega) (fun _ => ⟨by decide, ⟨_, hM.1⟩, (c_works hM ha (by omega)).mono ?_⟩)
    rintro r M' ⟨rfl, rfl⟩
    rw [f8]
    simp only [fi_const, fi_iload, fi_aload, fi_istore, fi_astore, fi_iinc, fi_bin, fi_div, fi_un, fi_dup, fi_dup2, fi_pop, fi_if, fi_cmp, fi_getf, fi_putf, fi_putr, fi_ald, fi_ast, fi_alen, fi_iret, fi_zret, fi_vret, fi_cut, fi_no, fi_s0, fi_s1, fi_s2, fi_s3, fi_s4, fi_v0, fi_v1, fi_v2, fi_v3, fi_v4, fi_v5, fi_n0, fi_n1, fi_n2, fi_mm, fi_stat, fi_alds, fi_tsw, List.getElem?_cons_zero, List.getElem?_cons_succ, List.set_cons_zero, List.set_cons_succ, List.length_cons, List.length_nil, Option.toList_some, Option.toList_none, List.cons_append, List.nil_append, Value.category, true_and, k_0, k_1, k_2, k_3, k_4, false_implies, true_implies, reduceCtorEq, bI_eq0, nI_1, hM.1]
    refine ⟨fun q => ?_, fun q => ⟨fun q1 => ?_, fun q1 => ⟨fun q2 => ?_, fun q2 => ?_⟩⟩⟩
    · simp only [gpG, q]; exact l_findsGap hM ha σ0 n (k + 1) la σ (by omega) hs
    · have q' : wkF (σ0 (m + 8)) a k = true := by simpa using q
      simp only [gpG, q', q1, if_true]; exact l_findsGap hM ha σ0 n (k + 1) _ σ (by omega) hs
    · have q' : wkF (σ0 (m + 8)) a k = true := by simpa using q
      simp only [gpG, q', q1, q2, if_true, if_false]; exact l_findsGap hM ha σ0 n (k + 1) _ σ (by omega) hs
    · have q' : wkF (σ0 (m + 8)) a k = true := by simpa using q
      simp only [gpG, q', q1, q2, if_true, if_false]
      have hs2 : gapS σ0 (fs_u (fs_u σ m 23 (la + 1)) m 24 (nI k - la - 1)) m := by
        intro x y hxy
        simp only [fs_u]
        rw [if_neg (fun z => hxy ⟨z.1, Or.inr z.2⟩), if_neg (fun z => hxy ⟨z.1, Or.inl z.2⟩)]
        exact hs x y hxy
      have := l_findsGap hM ha σ0 n (k + 1) (nI k) _ (by omega) hs2
      have e1 : fs_u (fs_u σ m 23 (la + 1)) m 24 (nI k - la - 1) m 23 = la + 1 := by simp [fs_u]
      have e2 : fs_u (fs_u σ m 23 (la + 1)) m 24 (nI k - la - 1) m 24 = nI k - la - 1 := by simp [fs_u]
      rw [e1, e2] at this
      exact this
theorem c_findsGap (hM : shM S m) {a : Nat} (ha : a < 32) : fs_Ct g m_X9_findsGap [.ref m, .int (nI a)] ((S, fr), σ, τ) (fun r M' => r = none ∧ ∃ σ', M' = ((S, fr), σ', τ) ∧ gapS σ σ' m ∧ σ' m 23 = (gpB (wkF (σ (m + 8)) a)).1 ∧ σ' m 24 = (gpB (wkF (σ (m + 8)) a)).2) := by
  refine fs_enterC (by decide) (by simp [fs_ok]) (Nat.le_of_ble_eq_true rfl) (fun d => S_X9_findsGap_0 ?_)
  show T_X9_findsGap_0 g d _ [.ref m, .int (nI a), .null, .null] [] _
  simp only [T_X9_findsGap_0, fi_const, fi_iload, fi_aload, fi_istore, fi_astore, fi_iinc, fi_bin, fi_div, fi_un, fi_dup, fi_dup2, fi_pop, fi_if, fi_cmp, fi_getf, fi_putf, fi_putr, fi_ald, fi_ast, fi_alen, fi_iret, fi_zret, fi_vret, fi_cut, fi_no, fi_s0, fi_s1, fi_s2, fi_s3, fi_s4, fi_v0, fi_v1, fi_v2, fi_v3, fi_v4, fi_v5, fi_n0, fi_n1, fi_n2, fi_mm, fi_stat, fi_alds, fi_tsw, List.getElem?_cons_zero, List.getElem?_cons_succ, List.set_cons_zero, List.set_cons_succ, List.length_cons, List.length_nil, Option.toList_some, Option.toList_none, List.cons_append, List.nil_append, Value.category, true_and, k_0, k_1, k_2, k_3, k_4, false_implies, true_implies, reduceCtorEq]
  simp only [hM.1, fi_const, fi_iload, fi_aload, fi_istore, fi_astore, fi_iinc, fi_bin, fi_div, fi_un, fi_dup, fi_dup2, fi_pop, fi_if, fi_cmp, fi_getf, fi_putf, fi_putr, fi_ald, fi_ast, fi_alen, fi_iret, fi_zret, fi_vret, fi_cut, fi_no, fi_s0, fi_s1, fi_s2, fi_s3, fi_s4, fi_v0, fi_v1, fi_v2, fi_v3, fi_v4, fi_v5, fi_n0, fi_n1, fi_n2, fi_mm, fi_stat, fi_alds, fi_tsw, List.getElem?_cons_zero, List.getElem?_cons_succ, List.set_cons_zero, List.set_cons_succ, List.length_cons, List.length_nil, Option.toList_some, Option.toList_none, List.cons_append, List.nil_append, Value.category, true_and, k_0, k_1, k_2, k_3, k_4, false_implies, true_implies, reduceCtorEq]
  have hs2 : gapS σ (fs_u (fs_u σ m 23 (-1)) m 24 0) m := by
    intro x y hxy
    simp only [fs_u]
    rw [if_neg (fun z => hxy ⟨z.1, Or.inr z.2⟩), if_neg (fun z => hxy ⟨z.1, Or.inl z.2⟩)]
  have := l_findsGap hM ha σ 12 0 (-1) _ rfl hs2 (d := d) (g := g) (fr := fr) (τ := τ)
  have e1 : fs_u (fs_u σ m 23 (-1)) m 24 0 m 23 = -1 := by simp [fs_u]
  have e2 : fs_u (fs_u σ m 23 (-1)) m 24 0 m 24 = 0 := by simp [fs_u]
  rw [e1, e2] at this
  exact this
/-- the gap of actor a is found -/
def gapd (σ : Nat → Nat → Int32) (m a : Nat) : Prop := σ m 23 = (gpB (wkF (σ (m + 8)) a)).1 ∧ σ m 24 = (gpB (wkF (σ (m + 8)) a)).2
theorem c_status (hM : shM S m) {a k : Nat} (ha : a < 32) (hk : k < 12) : fs_Ct g m_X9_status [.ref m, .int (nI a), .int (nI k)] ((S, fr), σ, τ) (fun r M' => r = some (.int (stM (wkF (σ (m + 8)) a) (σ m 23) (σ m 24) (σ (m + 4) 3) k)) ∧ ((S, fr), σ, τ) = M') := by
  have c76 : ∀ d (j3 j4 : Value), fs_R g m_X9_status d (0, 0) 76 [.ref m, .int (nI a), .int (nI k), j3, j4] [] ((S, fr), σ, τ) (fun r M' => r = some (.int 2) ∧ ((S, fr), σ, τ) = M') := by
    intro d j3 j4
    refine S_X9_status_76 ?_
    simp only [T_X9_status_76, fi_const, fi_iload, fi_aload, fi_istore, fi_astore, fi_iinc, fi_bin, fi_div, fi_un, fi_dup, fi_dup2, fi_pop, fi_if, fi_cmp, fi_getf, fi_putf, fi_putr, fi_ald, fi_ast, fi_alen, fi_iret, fi_zret, fi_vret, fi_cut, fi_no, fi_s0, fi_s1, fi_s2, fi_s3, fi_s4, fi_v0, fi_v1, fi_v2, fi_v3, fi_v4, fi_v5, fi_n0, fi_n1, fi_n2, fi_mm, fi_stat, fi_alds, fi_tsw, List.getElem?_cons_zero, List.getElem?_cons_succ, List.set_cons_zero, List.set_cons_succ, List.length_cons, List.length_nil, Option.toList_some, Option.toList_none, List.cons_append, List.nil_append, Value.category, true_and, k_0, k_1, k_2, k_3, k_4, false_implies, true_implies, reduceCtorEq]
    simp
  refine fs_enterC (by decide) (by simp [fs_ok]) (Nat.le_of_ble_eq_true rfl) (fun d => S_X9_status_0 ?_)
  show T_X9_status_0 g d _ [.ref m, .int (nI a), .int (nI k), .null, .null] [] _
  simp only [T_X9_status_0, fi_const, fi_iload, fi_aload, fi_istore, fi_astore, fi_iinc, fi_bin, fi_div, fi_un, fi_dup, fi_dup2, fi_pop, fi_if, fi_cmp, fi_getf, fi_putf, fi_putr, fi_ald, fi_ast, fi_alen, fi_iret, fi_zret, fi_vret, fi_cut, fi_no, fi_s0, fi_s1, fi_s2, fi_s3, fi_s4, fi_v0, fi_v1, fi_v2, fi_v3, fi_v4, fi_v5, fi_n0, fi_n1, fi_n2, fi_mm, fi_stat, fi_alds, fi_tsw, List.getElem?_cons_zero, List.getElem?_cons_succ, List.set_cons_zero, List.set_cons_succ, List.length_cons, List.length_nil, Option.toList_some, Option.toList_none, List.cons_append, List.nil_append, Value.category, true_and, k_0, k_1, k_2, k_3, k_4, false_implies, true_implies, reduceCtorEq]
  refine ⟨by decide, ⟨_, hM.1⟩, (c_works hM ha hk).mono ?_⟩
  rintro r M' ⟨rfl, rfl⟩
  unfold stM
  generalize hf : wkF (σ (m + 8)) a = f
  simp only [fi_const, fi_iload, fi_aload, fi_istore, fi_astore, fi_iinc, fi_bin, fi_div, fi_un, fi_dup, fi_dup2, fi_pop, fi_if, fi_cmp, fi_getf, fi_putf, fi_putr, fi_ald, fi_ast, fi_alen, fi_iret, fi_zret, fi_vret, fi_cut, fi_no, fi_s0, fi_s1, fi_s2, fi_s3, fi_s4, fi_v0, fi_v1, fi_v2, fi_v3, fi_v4, fi_v5, fi_n0, fi_n1, fi_n2, fi_mm, fi_stat, fi_alds, fi_tsw, List.getElem?_cons_zero, List.getElem?_cons_succ, List.set_cons_zero, List.set_cons_succ, List.length_cons, List.length_nil, Option.toList_some, Option.toList_none, List.cons_append, List.nil_append, Value.category, true_and, k_0, k_1, k_2, k_3, k_4, false_implies, true_implies, reduceCtorEq, bI_eq0]
  refine ⟨fun q => ⟨by decide, ⟨_, hM.1⟩, (c_firstOf hM ha).mono ?_⟩, fun q => by simp [q]⟩
  rintro r M' ⟨rfl, rfl⟩
  rw [hf]
  simp only [fi_const, fi_iload, fi_aload, fi_istore, fi_astore, fi_iinc, fi_bin, fi_div, fi_un, fi_dup, fi_dup2, fi_pop, fi_if, fi_cmp, fi_getf, fi_putf, fi_putr, fi_ald, fi_ast, fi_alen, fi_iret, fi_zret, fi_vret, fi_cut, fi_no, fi_s0, fi_s1, fi_s2, fi_s3, fi_s4, fi_v0, fi_v1, fi_v2, fi_v3, fi_v4, fi_v5, fi_n0, fi_n1, fi_n2, fi_mm, fi_stat, fi_alds, fi_tsw, List.getElem?_cons_zero, List.getElem?_cons_succ, List.set_cons_zero, List.set_cons_succ, List.length_cons, List.length_nil, Option.toList_some, Option.toList_none, List.cons_append, List.nil_append, Value.category, true_and, k_0, k_1, k_2, k_3, k_4, false_implies, true_implies, reduceCtorEq, q, if_false]
  refine ⟨fun q1 => by simp [q1], fun q1 => ⟨fun q2 => by simp [q1, q2], fun q2 => ⟨by decide, ⟨_, hM.1⟩, (c_lastOf hM ha).mono ?_⟩⟩⟩
  rintro r M' ⟨rfl, rfl⟩
  rw [hf]
  simp only [fi_const, fi_iload, fi_aload, fi_istore, fi_astore, fi_iinc, fi_bin, fi_div, fi_un, fi_dup, fi_dup2, fi_pop, fi_if, fi_cmp, fi_getf, fi_putf, fi_putr, fi_ald, fi_ast, fi_alen, fi_iret, fi_zret, fi_vret, fi_cut, fi_no, fi_s0, fi_s1, fi_s2, fi_s3, fi_s4, fi_v0, fi_v1, fi_v2, fi_v3, fi_v4, fi_v5, fi_n0, fi_n1, fi_n2, fi_mm, fi_stat, fi_alds, fi_tsw, List.getElem?_cons_zero, List.getElem?_cons_succ, List.set_cons_zero, List.set_cons_succ, List.length_cons, List.length_nil, Option.toList_some, Option.toList_none, List.cons_append, List.nil_append, Value.category, true_and, k_0, k_1, k_2, k_3, k_4, false_implies, true_implies, reduceCtorEq, q1, q2, if_false, hM.1, hM.2.2.2.2.1]
  refine ⟨fun q3 => ⟨pk_in 3 18 (by decide), ?_⟩, fun q3 => by simp [q3]⟩
  simp only [Bool.false_eq_true, if_false, q3, not_true]
  refine ⟨fun q4 => ?_, fun q4 => ⟨fun q5 => ?_, fun q5 => ⟨fun q6 => ?_, fun q6 => by simp [q4, q5, q6]⟩⟩⟩
  · rw [if_pos q4]; exact c76 d _ _
  · rw [if_neg q4, if_pos q5]; exact c76 d _ _
  · rw [if_neg q4, if_neg q5, if_pos q6]; exact c76 d _ _
theorem l_days (hM : shM S m) {a : Nat} (ha : a < 32) (its : Int32) : ∀ n k s, k + n = 12 → fs_R g m_X9_days d (0, 0) 10 [.ref m, .int (nI a), .int its, .int s, .int (nI k)] [] ((S, fr), σ, τ) (fun r M' => r = some (.int (seM (fun k => decide (stM (wkF (σ (m + 8)) a) (σ m 23) (σ m 24) (σ (m + 4) 3) k = its)) n k s)) ∧ ((S, fr), σ, τ) = M')
  | 0, k, s, h => by
    refine S_X9_days_10 ?_
    simp only [T_X9_days_10, fi_const, fi_iload, fi_aload, fi_istore, fi_astore, fi_iinc, fi_bin, fi_div, fi_un, fi_dup, fi_dup2, fi_pop, fi_if, fi_cmp, fi_getf, fi_putf, fi_putr, fi_ald, fi_ast, fi_alen, fi_iret, fi_zret, fi_vret, fi_cut, fi_no, fi_s0, fi_s1, fi_s2, fi_s3, fi_s4, fi_v0, fi_v1, fi_v2, fi_v3, fi_v4, fi_v5, fi_n0, fi_n1, fi_n2, fi_mm, fi_stat, fi_alds, fi_tsw, List.getElem?_cons_zero, List.getElem?_cons_succ, List.set_cons_zero, List.set_cons_succ, List.length_cons, List.length_nil, Option.toList_some, Option.toList_none, List.cons_append, List.nil_append, Value.category, true_and, k_0, k_1, k_2, k_3, k_4, false_implies, true_implies, reduceCtorEq]
    refine pk_le 12 k (fun _ => ?_) (fun h2 => by omega)
    simp [seM]
  | n + 1, k, s, h => by
    refine S_X9_days_10 ?_
    simp only [T_X9_days_10, fi_const, fi_iload, fi_aload, fi_istore, fi_astore, fi_iinc, fi_bin, fi_div, fi_un, fi_dup, fi_dup2, fi_pop, fi_if, fi_cmp, fi_getf, fi_putf, fi_putr, fi_ald, fi_ast, fi_alen, fi_iret, fi_zret, fi_vret, fi_cut, fi_no, fi_s0, fi_s1, fi_s2, fi_s3, fi_s4, fi_v0, fi_v1, fi_v2, fi_v3, fi_v4, fi_v5, fi_n0, fi_n1, fi_n2, fi_mm, fi_stat, fi_alds, fi_tsw, List.getElem?_cons_zero, List.getElem?_cons_succ, List.set_cons_zero, List.set_cons_succ, List.length_cons, List.length_nil, Option.toList_some, Option.toList_none, List.cons_append, List.nil_append, Value.category, true_and, k_0, k_1, k_2, k_3, k_4, false_implies, true_implies, reduceCtorEq]
    refine pk_le 12 k (fun h2 => by omega) (fun _ => ⟨by decide, ⟨_, hM.1⟩, (c_status hM ha (by omega)).mono ?_⟩)
    rintro r M' ⟨rfl, rfl⟩
    simp only [fi_const, fi_iload, fi_aload, fi_istore, fi_astore, fi_iinc, fi_bin, fi_div, fi_un, fi_dup, fi_dup2, fi_pop, fi_if, fi_cmp, fi_getf, fi_putf, fi_putr, fi_ald, fi_ast, fi_alen, fi_iret, fi_zret, fi_vret, fi_cut, fi_no, fi_s0, fi_s1, fi_s2, fi_s3, fi_s4, fi_v0, fi_v1, fi_v2, fi_v3, fi_v4, fi_v5, fi_n0, fi_n1, fi_n2, fi_mm, fi_stat, fi_alds, fi_tsw, List.getElem?_cons_zero, List.getElem?_cons_succ, List.set_cons_zero, List.set_cons_succ, List.length_cons, List.length_nil, Option.toList_some, Option.toList_none, List.cons_append, List.nil_append, Value.category, true_and, k_0, k_1, k_2, k_3, k_4, false_implies, true_implies, reduceCtorEq, nI_1, Int32.add_zero]
    refine ⟨fun q => ?_, fun q => ?_⟩
    · rw [seM, if_pos (by simpa using q)]; exact l_days hM ha its n (k + 1) _ (by omega)
    · rw [seM, if_neg (by simpa using q)]; exact l_days hM ha its n (k + 1) _ (by omega)
/-- the number of days of a status, of the found gap -/
def dsM (f : Nat → Bool) (drop its : Int32) : Int32 := nI (ct (fun k => decide (stM f (gpB f).1 (gpB f).2 drop k = its)) 12)
theorem c_days (hM : shM S m) {a : Nat} (ha : a < 32) (its : Int32) : fs_Ct g m_X9_days [.ref m, .int (nI a), .int its] ((S, fr), σ, τ) (fun r M' => r = some (.int (dsM (wkF (σ (m + 8)) a) (σ (m + 4) 3) its)) ∧ ∃ σ', M' = ((S, fr), σ', τ) ∧ gapS σ σ' m) := by
  refine fs_enterC (by decide) (by simp [fs_ok]) (Nat.le_of_ble_eq_true rfl) (fun d => S_X9_days_0 ?_)
  show T_X9_days_0 g d _ [.ref m, .int (nI a), .int its, .null, .null] [] _
  simp only [T_X9_days_0, fi_const, fi_iload, fi_aload, fi_istore, fi_astore, fi_iinc, fi_bin, fi_div, fi_un, fi_dup, fi_dup2, fi_pop, fi_if, fi_cmp, fi_getf, fi_putf, fi_putr, fi_ald, fi_ast, fi_alen, fi_iret, fi_zret, fi_vret, fi_cut, fi_no, fi_s0, fi_s1, fi_s2, fi_s3, fi_s4, fi_v0, fi_v1, fi_v2, fi_v3, fi_v4, fi_v5, fi_n0, fi_n1, fi_n2, fi_mm, fi_stat, fi_alds, fi_tsw, List.getElem?_cons_zero, List.getElem?_cons_succ, List.set_cons_zero, List.set_cons_succ, List.length_cons, List.length_nil, Option.toList_some, Option.toList_none, List.cons_append, List.nil_append, Value.category, true_and, k_0, k_1, k_2, k_3, k_4, false_implies, true_implies, reduceCtorEq]
  refine ⟨by decide, ⟨_, hM.1⟩, (c_findsGap hM ha).mono ?_⟩
  rintro r M' ⟨rfl, σ', rfl, hs, e1, e2⟩
  simp only [fi_const, fi_iload, fi_aload, fi_istore, fi_astore, fi_iinc, fi_bin, fi_div, fi_un, fi_dup, fi_dup2, fi_pop, fi_if, fi_cmp, fi_getf, fi_putf, fi_putr, fi_ald, fi_ast, fi_alen, fi_iret, fi_zret, fi_vret, fi_cut, fi_no, fi_s0, fi_s1, fi_s2, fi_s3, fi_s4, fi_v0, fi_v1, fi_v2, fi_v3, fi_v4, fi_v5, fi_n0, fi_n1, fi_n2, fi_mm, fi_stat, fi_alds, fi_tsw, List.getElem?_cons_zero, List.getElem?_cons_succ, List.set_cons_zero, List.set_cons_succ, List.length_cons, List.length_nil, Option.toList_some, Option.toList_none, List.cons_append, List.nil_append, Value.category, true_and, k_0, k_1, k_2, k_3, k_4, false_implies, true_implies, reduceCtorEq]
  have := l_days (d := d) (g := g) (fr := fr) (τ := τ) (σ := σ') hM ha its 12 0 0 rfl
  rw [hs.cell (a := m + 8) (by omega), hs.cell (a := m + 4) (by omega), e1, e2] at this
  refine fs_R_mono this ?_
  rintro r M' ⟨rfl, rfl⟩
  exact ⟨by rw [show (0 : Int32) = nI (ct (fun k => decide (stM (wkF (σ (m + 8)) a) (gpB (wkF (σ (m + 8)) a)).1 (gpB (wkF (σ (m + 8)) a)).2 (σ (m + 4) 3) k = its)) 0) from rfl, seM_ct 12 0 rfl]; rfl, σ', rfl, hs⟩
end PM3
