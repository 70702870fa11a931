/-! ===== rain: RainRun's end; the reference's rain ===== -/
def qqF (n : Nat) : Int32 := (1 <<< (nI n &&& 31)) - 1
theorem qq_d12 {n : Nat} (h : n ≤ 12) : d12 (qqF n) := by
  have : ∀ n, n < 13 → ∀ k, k < 32 → 12 ≤ k → bt (qqF n) k = false := by decide +kernel
  intro k hk
  by_cases h2 : k < 32
  · exact this n (by omega) k h2 hk
  · exact bt_ge _ (by omega)
def rnT (sc lo ni cs inn : Nat → Int32) (rain : Int32) : Nat × Int32 × (Nat → Int32) := rnG sc lo ni cs inn rain 36 0 (qqF (spF sc 12)) 0 0 (fun _ => 0)
theorem spF_le (sc : Nat → Int32) : ∀ n, spF sc n ≤ n
  | 0 => Nat.le_refl _
  | n + 1 => by
    simp only [spF]
    split
    · have := spF_le sc n; omega
    · omega
section PR3
variable {g : fs_G} {d : Nat} {S : List fs_Sh} {fr : Bool} {σ : Nat → Nat → Int32} {τ : Nat → Nat → Int64} {p t r m : Nat}
theorem c_shootAll (hR : shR S r t) (hD : shD S t p) (hP : shP S p) (hrt : t + 6 ≤ r) (hpr : p + 12 ≤ r) (rain : Int32) (hl : locOK (σ (t + 1)) (σ (t + 2))) (h01 : ∀ e, e < 12 → σ (t + 3) e = 0 ∨ σ (t + 3) e = 1) : fs_Ct g m_X5_shootAll [.ref r, .int rain] ((S, fr), σ, τ) (fun x M' => x = none ∧ ∃ σ', M' = ((S, fr), σ', τ) ∧ same σ σ' (inR r) ∧ σ' r 0 = nI (rnT (σ (t + 1)) (σ (t + 2)) (σ (t + 3)) (σ (t + 5)) (σ (p + 3)) rain).1 ∧ σ' r 1 = (rnT (σ (t + 1)) (σ (t + 2)) (σ (t + 3)) (σ (t + 5)) (σ (p + 3)) rain).2.1 ∧ ∀ j, j < (rnT (σ (t + 1)) (σ (t + 2)) (σ (t + 3)) (σ (t + 5)) (σ (p + 3)) rain).1 → σ' (r + 1) j = (rnT (σ (t + 1)) (σ (t + 2)) (σ (t + 3)) (σ (t + 5)) (σ (p + 3)) rain).2.2 j) := by
  refine fs_enterC (by decide) (by simp [fs_ok]) (Nat.le_of_ble_eq_true rfl) (fun d => S_X5_shootAll_0 ?_)
  show T_X5_shootAll_0 g d _ [.ref r, .int rain, .null, .null] [] _
  simp only [T_X5_shootAll_0, fi_const, fi_iload, fi_aload, fi_istore, fi_astore, fi_iinc, fi_bin, fi_div, fi_un, fi_dup, fi_dup2, fi_pop, fi_if, fi_cmp, fi_getf, fi_putf, fi_putr, fi_ald, fi_ast, fi_alen, fi_iret, fi_zret, fi_vret, fi_cut, fi_no, fi_s0, fi_s1, fi_s2, fi_s3, fi_s4, fi_v0, fi_v1, fi_v2, fi_v3, fi_v4, fi_v5, fi_n0, fi_n1, fi_n2, fi_mm, fi_stat, fi_alds, fi_tsw, List.getElem?_cons_zero, List.getElem?_cons_succ, List.set_cons_zero, List.set_cons_succ, List.length_cons, List.length_nil, Option.toList_some, Option.toList_none, List.cons_append, List.nil_append, Value.category, true_and, k_0, k_1, k_2, k_3, k_4, false_implies, true_implies, reduceCtorEq]
  simp only [hR.1, fi_const, fi_iload, fi_aload, fi_istore, fi_astore, fi_iinc, fi_bin, fi_div, fi_un, fi_dup, fi_dup2, fi_pop, fi_if, fi_cmp, fi_getf, fi_putf, fi_putr, fi_ald, fi_ast, fi_alen, fi_iret, fi_zret, fi_vret, fi_cut, fi_no, fi_s0, fi_s1, fi_s2, fi_s3, fi_s4, fi_v0, fi_v1, fi_v2, fi_v3, fi_v4, fi_v5, fi_n0, fi_n1, fi_n2, fi_mm, fi_stat, fi_alds, fi_tsw, List.getElem?_cons_zero, List.getElem?_cons_succ, List.set_cons_zero, List.set_cons_succ, List.length_cons, List.length_nil, Option.toList_some, Option.toList_none, List.cons_append, List.nil_append, Value.category, true_and, k_0, k_1, k_2, k_3, k_4, false_implies, true_implies, reduceCtorEq]
  generalize hσ1 : fs_u (fs_u (fs_u σ r 0 0) r 1 0) r 5 0 = σ1
  have hs1 : same σ σ1 (inR r) := by rw [← hσ1]; exact same_uu (same_uu (same_u (Or.inl rfl)) (Or.inl rfl)) (Or.inl rfl)
  have ft : ∀ i, i < 6 → σ1 (t + i) = σ (t + i) := fun i hi => hs1 _ (by unfold inR; omega)
  refine ⟨by decide, ⟨_, hD.1⟩, (c_span hD).mono ?_⟩
  rintro x M' ⟨rfl, rfl⟩
  simp only [fi_const, fi_iload, fi_aload, fi_istore, fi_astore, fi_iinc, fi_bin, fi_div, fi_un, fi_dup, fi_dup2, fi_pop, fi_if, fi_cmp, fi_getf, fi_putf, fi_putr, fi_ald, fi_ast, fi_alen, fi_iret, fi_zret, fi_vret, fi_cut, fi_no, fi_s0, fi_s1, fi_s2, fi_s3, fi_s4, fi_v0, fi_v1, fi_v2, fi_v3, fi_v4, fi_v5, fi_n0, fi_n1, fi_n2, fi_mm, fi_stat, fi_alds, fi_tsw, List.getElem?_cons_zero, List.getElem?_cons_succ, List.set_cons_zero, List.set_cons_succ, List.length_cons, List.length_nil, Option.toList_some, Option.toList_none, List.cons_append, List.nil_append, Value.category, true_and, k_0, k_1, k_2, k_3, k_4, false_implies, true_implies, reduceCtorEq, hR.1]
  rw [ft 1 (by decide)]
  have := l_shootAll (d := d) (g := g) (fr := fr) (τ := τ) hR hD hP hrt hpr rain σ hl h01 36 0 (fs_u σ1 r 4 ((1 <<< (nI (spF (σ (t + 1)) 12) &&& 31)) - 1)) (fun _ => 0) .null .null rfl (same_uu hs1 (Or.inl rfl)) (by rw [← hσ1]; simp [fs_u]; rfl) (by rw [u_eq]; exact qq_d12 (spF_le _ 12)) (Or.inl (by decide)) (fun j hj => by omega)
  rw [u_eq, show fs_u σ1 r 4 ((1 <<< (nI (spF (σ (t + 1)) 12) &&& 31)) - 1) r 5 = 0 by rw [← hσ1]; simp [fs_u], show fs_u σ1 r 4 ((1 <<< (nI (spF (σ (t + 1)) 12) &&& 31)) - 1) r 1 = 0 by rw [← hσ1]; simp [fs_u]] at this
  exact this
theorem rn_le {sc lo ni cs inn : Nat → Int32} {rain : Int32} : ∀ n c q ti ls sh, c ≤ (rnG sc lo ni cs inn rain n c q ti ls sh).1 ∧ (rnG sc lo ni cs inn rain n c q ti ls sh).1 ≤ c + n
  | 0, c, q, ti, ls, sh => ⟨Nat.le_refl _, Nat.le_refl _⟩
  | n + 1, c, q, ti, ls, sh => by
    simp only [rnG]
    split
    · exact ⟨Nat.le_refl _, by omega⟩
    · have := rn_le (sc := sc) (lo := lo) (ni := ni) (cs := cs) (inn := inn) (rain := rain) n (c + 1) (qxF q (chF sc lo ni cs inn q ti (raB rain c) (fiN (bt q) 12 0))) (tiF ni cs (chF sc lo ni cs inn q ti (raB rain c) (fiN (bt q) 12 0))) (if lfF sc lo ni cs inn q ti (raB rain c) (fiN (bt q) 12 0) then ls + 1 else ls) (upd sh c (chF sc lo ni cs inn q ti (raB rain c) (fiN (bt q) 12 0)))
      exact ⟨by omega, by omega⟩
theorem c_shotOn (hR : shR S r t) {c : Nat} (hc : c ≤ 36) (h0 : σ r 0 = nI c) (x : Int32) : fs_Ct g m_X5_shotOn [.ref r, .int x] ((S, fr), σ, τ) (fun y M' => y = some (.int (if x < 0 then -1 else if nI c ≤ x then -1 else σ (r + 1) x.toNatClampNeg)) ∧ ((S, fr), σ, τ) = M') := by
  refine fs_enterC (by decide) (by simp [fs_ok]) (Nat.le_of_ble_eq_true rfl) (fun d => S_X5_shotOn_0 ?_)
  show T_X5_shotOn_0 g d _ [.ref r, .int x] [] _
  simp only [T_X5_shotOn_0, fi_const, fi_iload, fi_aload, fi_istore, fi_astore, fi_iinc, fi_bin, fi_div, fi_un, fi_dup, fi_dup2, fi_pop, fi_if, fi_cmp, fi_getf, fi_putf, fi_putr, fi_ald, fi_ast, fi_alen, fi_iret, fi_zret, fi_vret, fi_cut, fi_no, fi_s0, fi_s1, fi_s2, fi_s3, fi_s4, fi_v0, fi_v1, fi_v2, fi_v3, fi_v4, fi_v5, fi_n0, fi_n1, fi_n2, fi_mm, fi_stat, fi_alds, fi_tsw, List.getElem?_cons_zero, List.getElem?_cons_succ, List.set_cons_zero, List.set_cons_succ, List.length_cons, List.length_nil, Option.toList_some, Option.toList_none, List.cons_append, List.nil_append, Value.category, true_and, k_0, k_1, k_2, k_3, k_4, false_implies, true_implies, reduceCtorEq]
  simp only [hR.1, hR.2, h0, fi_const, fi_iload, fi_aload, fi_istore, fi_astore, fi_iinc, fi_bin, fi_div, fi_un, fi_dup, fi_dup2, fi_pop, fi_if, fi_cmp, fi_getf, fi_putf, fi_putr, fi_ald, fi_ast, fi_alen, fi_iret, fi_zret, fi_vret, fi_cut, fi_no, fi_s0, fi_s1, fi_s2, fi_s3, fi_s4, fi_v0, fi_v1, fi_v2, fi_v3, fi_v4, fi_v5, fi_n0, fi_n1, fi_n2, fi_mm, fi_stat, fi_alds, fi_tsw, List.getElem?_cons_zero, List.getElem?_cons_succ, List.set_cons_zero, List.set_cons_succ, List.length_cons, List.length_nil, Option.toList_some, Option.toList_none, List.cons_append, List.nil_append, Value.category, true_and, k_0, k_1, k_2, k_3, k_4, false_implies, true_implies, reduceCtorEq]
  refine ⟨fun q => by simp [q], fun q => ⟨fun q2 => by simp [q2], fun q2 => ?_⟩⟩
  rcases pk_ix x (n := c) (by omega) with z | z | ⟨j, hj, rfl⟩
  · exact absurd z q
  · exact absurd z q2
  · simp only [q, q2, if_false]
    exact ⟨vp_in_nI (by omega) (by decide), trivial, trivial⟩
/-- the reference's isFree, canWork -/
theorem c_isFreeM (hM : shM S m) {nS : Nat} (hnS : nS ≤ 14) (hc : σ (m + 2) 82 = nI nS) (hl : laid σ m nS) {k : Nat} (hk : k < 12) : fs_Ct g m_X9_isFree [.ref m, .int (nI k)] ((S, fr), σ, τ) (fun x M' => x = some (.int (bI (decide (scF (fr_ (σ (m + 4)) 4) k nS = 0)))) ∧ ((S, fr), σ, τ) = M') := by
  refine fs_enterC (by decide) (by simp [fs_ok]) (Nat.le_of_ble_eq_true rfl) (fun d => S_X9_isFree_0 ?_)
  show T_X9_isFree_0 g d _ [.ref m, .int (nI k)] [] _
  simp only [T_X9_isFree_0, fi_const, fi_iload, fi_aload, fi_istore, fi_astore, fi_iinc, fi_bin, fi_div, fi_un, fi_dup, fi_dup2, fi_pop, fi_if, fi_cmp, fi_getf, fi_putf, fi_putr, fi_ald, fi_ast, fi_alen, fi_iret, fi_zret, fi_vret, fi_cut, fi_no, fi_s0, fi_s1, fi_s2, fi_s3, fi_s4, fi_v0, fi_v1, fi_v2, fi_v3, fi_v4, fi_v5, fi_n0, fi_n1, fi_n2, fi_mm, fi_stat, fi_alds, fi_tsw, List.getElem?_cons_zero, List.getElem?_cons_succ, List.set_cons_zero, List.set_cons_succ, List.length_cons, List.length_nil, Option.toList_some, Option.toList_none, List.cons_append, List.nil_append, Value.category, true_and, k_0, k_1, k_2, k_3, k_4, false_implies, true_implies, reduceCtorEq]
  simp only [hM.1, hM.2.2.2.2.2.2.2.2.1, fi_const, fi_iload, fi_aload, fi_istore, fi_astore, fi_iinc, fi_bin, fi_div, fi_un, fi_dup, fi_dup2, fi_pop, fi_if, fi_cmp, fi_getf, fi_putf, fi_putr, fi_ald, fi_ast, fi_alen, fi_iret, fi_zret, fi_vret, fi_cut, fi_no, fi_s0, fi_s1, fi_s2, fi_s3, fi_s4, fi_v0, fi_v1, fi_v2, fi_v3, fi_v4, fi_v5, fi_n0, fi_n1, fi_n2, fi_mm, fi_stat, fi_alds, fi_tsw, List.getElem?_cons_zero, List.getElem?_cons_succ, List.set_cons_zero, List.set_cons_succ, List.length_cons, List.length_nil, Option.toList_some, Option.toList_none, List.cons_append, List.nil_append, Value.category, true_and, k_0, k_1, k_2, k_3, k_4, false_implies, true_implies, reduceCtorEq, nI_clamp (show k < 2 ^ 31 by omega)]
  refine ⟨vp_in_nI hk (by decide), fun q => ⟨by decide, ⟨_, rfl⟩, (c_anyOf hM hnS hc k).mono ?_⟩, fun q => ?_⟩
  · rintro x M' ⟨rfl, rfl⟩
    have hb : ∀ b, anF (fr_ (σ (m + 4)) 4) k nS 0 = some b → b < 14 := fun b q => by have := (anF_some q).1; omega
    simp only [fi_const, fi_iload, fi_aload, fi_istore, fi_astore, fi_iinc, fi_bin, fi_div, fi_un, fi_dup, fi_dup2, fi_pop, fi_if, fi_cmp, fi_getf, fi_putf, fi_putr, fi_ald, fi_ast, fi_alen, fi_iret, fi_zret, fi_vret, fi_cut, fi_no, fi_s0, fi_s1, fi_s2, fi_s3, fi_s4, fi_v0, fi_v1, fi_v2, fi_v3, fi_v4, fi_v5, fi_n0, fi_n1, fi_n2, fi_mm, fi_stat, fi_alds, fi_tsw, List.getElem?_cons_zero, List.getElem?_cons_succ, List.set_cons_zero, List.set_cons_succ, List.length_cons, List.length_nil, Option.toList_some, Option.toList_none, List.cons_append, List.nil_append, Value.category, true_and, k_0, k_1, k_2, k_3, k_4, false_implies, true_implies, reduceCtorEq, oI_m14 hb, ← scF_an hnS]
    exact ⟨fun w => by simp [w, bI], fun w => by simp [w, bI]⟩
  · have : ¬ scF (fr_ (σ (m + 4)) 4) k nS = 0 := by
      intro z
      apply q
      rw [hl k hk]
      exact caF_no ((scF_zero nS hnS).mp z)
    simp [this, bI]
/-- what the last day shot makes tired -/
def tiC (ni cs : Nat → Int32) (sh : Nat → Int32) (c : Nat) : Int32 := if c = 0 then 0 else tiF ni cs (sh (c - 1))
theorem c_canWork (hM : shM S m) {nS : Nat} (hnS : nS ≤ 14) (hc : σ (m + 2) 82 = nI nS) (hl : laid σ m nS) (h01 : b01 (fr_ (σ (m + 2)) 52) nS) {c : Nat} (hc64 : c ≤ 64) (h26 : σ m 26 = nI c) (hsh : ∀ j, j < c → σ (m + 9) j = -1 ∨ ∃ e, e < 12 ∧ σ (m + 9) j = nI e) {k : Nat} (hk : k < 12) : fs_Ct g m_X9_canWork [.ref m, .int (nI k)] ((S, fr), σ, τ) (fun x M' => x = some (.int (bI (reR (pnF (fr_ (σ (m + 4)) 4) (fr_ (σ (m + 2)) 52) nS) (fun e => caF (fr_ (σ (m + 4)) 4) (fr_ (σ (m + 2)) 66) e nS) (tiC (pnF (fr_ (σ (m + 4)) 4) (fr_ (σ (m + 2)) 52) nS) (fun e => caF (fr_ (σ (m + 4)) 4) (fr_ (σ (m + 2)) 66) e nS) (σ (m + 9)) c) k))) ∧ ((S, fr), σ, τ) = M') := by
  generalize hni : pnF (fr_ (σ (m + 4)) 4) (fr_ (σ (m + 2)) 52) nS = ni
  generalize hcs : (fun e => caF (fr_ (σ (m + 4)) 4) (fr_ (σ (m + 2)) 66) e nS) = cs
  have h01' : ∀ e, ni e = 0 ∨ ni e = 1 := fun e => by rw [← hni]; exact pnF01 h01
  have hcs8 : ∀ e, e < 12 → σ (m + 8) e = cs e := fun e he => by rw [← hcs]; exact hl e he
  have c22 : ∀ d (la : Int32) (j2 : Value), (la = -1 ∨ ∃ e, e < 12 ∧ la = nI e) → fs_R g m_X9_canWork d (0, 0) 22 [.ref m, .int (nI k), j2] [.int la] ((S, fr), σ, τ) (fun x M' => x = some (.int (bI (reR ni cs (tiF ni cs la) k))) ∧ ((S, fr), σ, τ) = M') := by
    intro d la j2 hla
    refine S_X9_canWork_22 ?_
    simp only [T_X9_canWork_22, fi_const, fi_iload, fi_aload, fi_istore, fi_astore, fi_iinc, fi_bin, fi_div, fi_un, fi_dup, fi_dup2, fi_pop, fi_if, fi_cmp, fi_getf, fi_putf, fi_putr, fi_ald, fi_ast, fi_alen, fi_iret, fi_zret, fi_vret, fi_cut, fi_no, fi_s0, fi_s1, fi_s2, fi_s3, fi_s4, fi_v0, fi_v1, fi_v2, fi_v3, fi_v4, fi_v5, fi_n0, fi_n1, fi_n2, fi_mm, fi_stat, fi_alds, fi_tsw, List.getElem?_cons_zero, List.getElem?_cons_succ, List.set_cons_zero, List.set_cons_succ, List.length_cons, List.length_nil, Option.toList_some, Option.toList_none, List.cons_append, List.nil_append, Value.category, true_and, k_0, k_1, k_2, k_3, k_4, false_implies, true_implies, reduceCtorEq]
    refine ⟨by decide, ⟨_, hM.1⟩, (c_isNightOf hM hnS hc k).mono ?_⟩
    rintro x M' ⟨rfl, rfl⟩
    rw [hni]
    simp only [fi_const, fi_iload, fi_aload, fi_istore, fi_astore, fi_iinc, fi_bin, fi_div, fi_un, fi_dup, fi_dup2, fi_pop, fi_if, fi_cmp, fi_getf, fi_putf, fi_putr, fi_ald, fi_ast, fi_alen, fi_iret, fi_zret, fi_vret, fi_cut, fi_no, fi_s0, fi_s1, fi_s2, fi_s3, fi_s4, fi_v0, fi_v1, fi_v2, fi_v3, fi_v4, fi_v5, fi_n0, fi_n1, fi_n2, fi_mm, fi_stat, fi_alds, fi_tsw, List.getElem?_cons_zero, List.getElem?_cons_succ, List.set_cons_zero, List.set_cons_succ, List.length_cons, List.length_nil, Option.toList_some, Option.toList_none, List.cons_append, List.nil_append, Value.category, true_and, k_0, k_1, k_2, k_3, k_4, false_implies, true_implies, reduceCtorEq, bI_eq0, decide_eq_false_iff_not]
    refine ⟨fun q => ⟨fun q2 => ?_, fun q2 => ⟨by decide, ⟨_, hM.1⟩, ?_⟩⟩, fun q => ?_⟩
    · simp [q2, tiF, reR, bI]
    · obtain ⟨e, he, rfl⟩ := hla.resolve_left q2
      refine (c_isNightOf hM hnS hc e).mono ?_
      rintro x M' ⟨rfl, rfl⟩
      rw [hni]
      simp only [fi_const, fi_iload, fi_aload, fi_istore, fi_astore, fi_iinc, fi_bin, fi_div, fi_un, fi_dup, fi_dup2, fi_pop, fi_if, fi_cmp, fi_getf, fi_putf, fi_putr, fi_ald, fi_ast, fi_alen, fi_iret, fi_zret, fi_vret, fi_cut, fi_no, fi_s0, fi_s1, fi_s2, fi_s3, fi_s4, fi_v0, fi_v1, fi_v2, fi_v3, fi_v4, fi_v5, fi_n0, fi_n1, fi_n2, fi_mm, fi_stat, fi_alds, fi_tsw, List.getElem?_cons_zero, List.getElem?_cons_succ, List.set_cons_zero, List.set_cons_succ, List.length_cons, List.length_nil, Option.toList_some, Option.toList_none, List.cons_append, List.nil_append, Value.category, true_and, k_0, k_1, k_2, k_3, k_4, false_implies, true_implies, reduceCtorEq, bI_eq0, decide_eq_false_iff_not, hM.1, hM.2.2.2.2.2.2.2.2.1, nI_clamp (show k < 2 ^ 31 by omega), nI_clamp (show e < 2 ^ 31 by omega), hcs8 e he, hcs8 k hk]
      have hk0 : ni k = 0 := (h01' k).resolve_right q
      refine ⟨fun q3 => ?_, fun q3 => ⟨vp_in_nI he (by decide), vp_in_nI hk (by decide), ?_⟩⟩
      · have he0 : ni e = 0 := (h01' e).resolve_right q3
        simp [tiF, reR, m1n he, nI_clamp (show e < 2 ^ 31 by omega), he0, bI]
      · have he1 : ¬ ni e = 0 := fun z => q3 (by rw [z]; decide)
        rw [and_comm32]
        by_cases w : cs k &&& cs e = 0 <;> simp [tiF, reR, m1n he, nI_clamp (show e < 2 ^ 31 by omega), he1, hk0, w, bI]
    · have hk1 : ¬ ni k = 0 := fun z => q (by rw [z]; decide)
      simp [reR, hk1, bI]
  refine fs_enterC (by decide) (by simp [fs_ok]) (Nat.le_of_ble_eq_true rfl) (fun d => S_X9_canWork_0 ?_)
  show T_X9_canWork_0 g d _ [.ref m, .int (nI k), .null] [] _
  simp only [T_X9_canWork_0, fi_const, fi_iload, fi_aload, fi_istore, fi_astore, fi_iinc, fi_bin, fi_div, fi_un, fi_dup, fi_dup2, fi_pop, fi_if, fi_cmp, fi_getf, fi_putf, fi_putr, fi_ald, fi_ast, fi_alen, fi_iret, fi_zret, fi_vret, fi_cut, fi_no, fi_s0, fi_s1, fi_s2, fi_s3, fi_s4, fi_v0, fi_v1, fi_v2, fi_v3, fi_v4, fi_v5, fi_n0, fi_n1, fi_n2, fi_mm, fi_stat, fi_alds, fi_tsw, List.getElem?_cons_zero, List.getElem?_cons_succ, List.set_cons_zero, List.set_cons_succ, List.length_cons, List.length_nil, Option.toList_some, Option.toList_none, List.cons_append, List.nil_append, Value.category, true_and, k_0, k_1, k_2, k_3, k_4, false_implies, true_implies, reduceCtorEq]
  simp only [hM.1, hM.2.2.2.2.2.2.2.2.2.1, h26, fi_const, fi_iload, fi_aload, fi_istore, fi_astore, fi_iinc, fi_bin, fi_div, fi_un, fi_dup, fi_dup2, fi_pop, fi_if, fi_cmp, fi_getf, fi_putf, fi_putr, fi_ald, fi_ast, fi_alen, fi_iret, fi_zret, fi_vret, fi_cut, fi_no, fi_s0, fi_s1, fi_s2, fi_s3, fi_s4, fi_v0, fi_v1, fi_v2, fi_v3, fi_v4, fi_v5, fi_n0, fi_n1, fi_n2, fi_mm, fi_stat, fi_alds, fi_tsw, List.getElem?_cons_zero, List.getElem?_cons_succ, List.set_cons_zero, List.set_cons_succ, List.length_cons, List.length_nil, Option.toList_some, Option.toList_none, List.cons_append, List.nil_append, Value.category, true_and, k_0, k_1, k_2, k_3, k_4, false_implies, true_implies, reduceCtorEq]
  refine ⟨fun q => ?_, fun q => ?_⟩
  · have hc0 : c = 0 := by
      rcases Nat.eq_zero_or_pos c with h | h
      · exact h
      · exact absurd q (nI_ne0 h (by omega))
    subst hc0
    have := c22 d (-1) .null (Or.inl rfl)
    simpa [tiC, tiF] using this
  · obtain ⟨c', rfl⟩ : ∃ c', c = c' + 1 := by
      cases c with
      | zero => exact absurd rfl q
      | succ c' => exact ⟨c', rfl⟩
    simp only [nI_pred, nI_clamp (show c' < 2 ^ 31 by omega)]
    refine ⟨vp_in_nI (by omega) (by decide), ?_⟩
    have := c22 d (σ (m + 9) c') .null (hsh c' (by omega))
    simpa [tiC] using this
end PR3
