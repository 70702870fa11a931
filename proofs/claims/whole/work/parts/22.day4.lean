/-! ===== DayTable: reasons ===== -/
def wbF (ni cs : Nat → Int32) (nk ck : Int32) (e : Nat) : Bool := if nk = 0 then decide (0 < e) && !decide (ni (e - 1) = 0) && !decide (cs (e - 1) &&& ck = 0) else decide (e + 1 < 12) && decide (ni (e + 1) = 0) && !decide (cs (e + 1) &&& ck = 0)
def rsF (sc lo ni le cs : Nat → Int32) (lk nk ek ck cap : Int32) (e : Nat) : Int32 :=
  if ¬ sc e = 0 ∧ ¬ lo e = lk then 1 else if ¬ sc e = 0 ∧ ¬ ni e = nk then 2 else if ¬ le e + ek ≤ cap then 3 else if wbF ni cs nk ck e then 4 else 0
section PD4
variable {g : fs_G} {d : Nat} {S : List fs_Sh} {fr : Bool} {σ : Nat → Nat → Int32} {τ : Nat → Nat → Int64} {p t : Nat}
theorem c_wouldBreak (hD : shD S t p) (hP : shP S p) {k e : Nat} (hk : k < 14) (he : e < 12) : fs_Ct g m_X0_wouldBreakTurnaround [.ref t, .int (nI k), .int (nI e)] ((S, fr), σ, τ) (fun r M' => r = some (.int (bI (wbF (σ (t + 3)) (σ (t + 5)) (σ (p + 8) k) (σ (p + 9) k) e))) ∧ ((S, fr), σ, τ) = M') := by
  refine fs_enterC (by decide) (by simp [fs_ok]) (Nat.le_of_ble_eq_true rfl) (fun d => S_X0_wouldBreakTurnaround_0 ?_)
  show T_X0_wouldBreakTurnaround_0 g d _ [.ref t, .int (nI k), .int (nI e), .null] [] _
  simp only [T_X0_wouldBreakTurnaround_0, fi_const, fi_iload, fi_aload, fi_istore, fi_astore, fi_iinc, fi_bin, fi_div, fi_un, fi_dup, fi_dup2, fi_pop, fi_if, fi_cmp, fi_getf, fi_putf, fi_putr, fi_ald, fi_ast, fi_alen, fi_iret, fi_zret, fi_vret, fi_cut, fi_no, fi_s0, fi_s1, fi_s2, fi_s3, fi_s4, fi_v0, fi_v1, fi_v2, fi_v3, fi_v4, fi_v5, fi_n0, fi_n1, fi_n2, fi_mm, fi_stat, fi_alds, fi_tsw, List.getElem?_cons_zero, List.getElem?_cons_succ, List.set_cons_zero, List.set_cons_succ, List.length_cons, List.length_nil, Option.toList_some, Option.toList_none, List.cons_append, List.nil_append, Value.category, true_and, k_0, k_1, k_2, k_3, k_4, false_implies, true_implies, reduceCtorEq]
  simp only [hD.1, hP.1, hP.2.2.2.2.2.2.2.2.2.1, hP.2.2.2.2.2.2.2.2.1, hD.2.2.2.1, hD.2.2.2.2.2, fi_const, fi_iload, fi_aload, fi_istore, fi_astore, fi_iinc, fi_bin, fi_div, fi_un, fi_dup, fi_dup2, fi_pop, fi_if, fi_cmp, fi_getf, fi_putf, fi_putr, fi_ald, fi_ast, fi_alen, fi_iret, fi_zret, fi_vret, fi_cut, fi_no, fi_s0, fi_s1, fi_s2, fi_s3, fi_s4, fi_v0, fi_v1, fi_v2, fi_v3, fi_v4, fi_v5, fi_n0, fi_n1, fi_n2, fi_mm, fi_stat, fi_alds, fi_tsw, List.getElem?_cons_zero, List.getElem?_cons_succ, List.set_cons_zero, List.set_cons_succ, List.length_cons, List.length_nil, Option.toList_some, Option.toList_none, List.cons_append, List.nil_append, Value.category, true_and, k_0, k_1, k_2, k_3, k_4, false_implies, true_implies, reduceCtorEq, nI_clamp (show k < 2 ^ 31 by omega), nI_1]
  have hik : vp_in (nI k) 14 := vp_in_nI hk (by decide)
  simp only [hik, true_and]
  refine ⟨fun e0 => ⟨fun e1 => ?_, fun e1 => ?_⟩, fun e0 => pk_le 12 (e + 1) (fun h => ?_) (fun h => ?_)⟩
  · have : e = 0 := by
      rcases Nat.eq_zero_or_pos e with h | h
      · exact h
      · exact absurd e1 (nI_nle h (by omega))
    subst this
    simp [wbF, e0, bI]
  · obtain ⟨e', rfl⟩ : ∃ e', e = e' + 1 := by
      cases e with
      | zero => exact absurd (by decide) e1
      | succ e' => exact ⟨e', rfl⟩
    have hi : vp_in (nI e') 12 := vp_in_nI (by omega) (by decide)
    simp only [nI_pred, nI_clamp (show e' < 2 ^ 31 by omega), hi, true_and]
    by_cases q1 : σ (t + 3) e' = 0 <;> by_cases q2 : σ (t + 5) e' &&& σ (p + 9) k = 0 <;> simp [wbF, e0, q1, q2, bI]
  · simp [wbF, e0, bI, show ¬ e + 1 < 12 by omega]
  · have hi : vp_in (nI (e + 1)) 12 := vp_in_nI (by omega) (by decide)
    simp only [nI_clamp (show e + 1 < 2 ^ 31 by omega), hi, true_and]
    by_cases q1 : σ (t + 3) (e + 1) = 0 <;> by_cases q2 : σ (t + 5) (e + 1) &&& σ (p + 9) k = 0 <;> simp [wbF, e0, q1, q2, bI, h]
theorem c_reasonAgainst (hD : shD S t p) (hP : shP S p) {k e : Nat} (hk : k < 14) (he : e < 12) : fs_Ct g m_X0_reasonAgainst [.ref t, .int (nI k), .int (nI e)] ((S, fr), σ, τ) (fun r M' => r = some (.int (rsF (σ (t + 1)) (σ (t + 2)) (σ (t + 3)) (σ (t + 4)) (σ (t + 5)) (σ (p + 6) k) (σ (p + 8) k) (σ (p + 7) k) (σ (p + 9) k) (σ (p + 11) 0) e)) ∧ ((S, fr), σ, τ) = M') := by
  have hik : vp_in (nI k) 14 := vp_in_nI hk (by decide)
  have hie : vp_in (nI e) 12 := vp_in_nI he (by decide)
  have c56 : ∀ d, fs_R g m_X0_reasonAgainst d (0, 0) 56 [.ref t, .int (nI k), .int (nI e)] [] ((S, fr), σ, τ) (fun r M' => r = some (.int (if ¬ σ (t + 4) e + σ (p + 7) k ≤ σ (p + 11) 0 then 3 else if wbF (σ (t + 3)) (σ (t + 5)) (σ (p + 8) k) (σ (p + 9) k) e then 4 else 0)) ∧ ((S, fr), σ, τ) = M') := by
    intro d
    refine S_X0_reasonAgainst_56 ?_
    simp only [T_X0_reasonAgainst_56, fi_const, fi_iload, fi_aload, fi_istore, fi_astore, fi_iinc, fi_bin, fi_div, fi_un, fi_dup, fi_dup2, fi_pop, fi_if, fi_cmp, fi_getf, fi_putf, fi_putr, fi_ald, fi_ast, fi_alen, fi_iret, fi_zret, fi_vret, fi_cut, fi_no, fi_s0, fi_s1, fi_s2, fi_s3, fi_s4, fi_v0, fi_v1, fi_v2, fi_v3, fi_v4, fi_v5, fi_n0, fi_n1, fi_n2, fi_mm, fi_stat, fi_alds, fi_tsw, List.getElem?_cons_zero, List.getElem?_cons_succ, List.set_cons_zero, List.set_cons_succ, List.length_cons, List.length_nil, Option.toList_some, Option.toList_none, List.cons_append, List.nil_append, Value.category, true_and, k_0, k_1, k_2, k_3, k_4, false_implies, true_implies, reduceCtorEq, hD.1, hP.1, hD.2.2.2.2.1, hP.2.2.2.2.2.2.2.1, hP.2.2.2.2.2.2.2.2.2.2.2, nI_clamp (show k < 2 ^ 31 by omega), nI_clamp (show e < 2 ^ 31 by omega)]
    simp only [hik, hie, true_and]
    refine ⟨pk_in 0 4 (by decide), fun h => ⟨by decide, ⟨_, rfl⟩, (c_wouldBreak hD hP hk he).mono ?_⟩, fun h => by simp [h]⟩
    rintro r M' ⟨rfl, rfl⟩
    simp only [fi_const, fi_iload, fi_aload, fi_istore, fi_astore, fi_iinc, fi_bin, fi_div, fi_un, fi_dup, fi_dup2, fi_pop, fi_if, fi_cmp, fi_getf, fi_putf, fi_putr, fi_ald, fi_ast, fi_alen, fi_iret, fi_zret, fi_vret, fi_cut, fi_no, fi_s0, fi_s1, fi_s2, fi_s3, fi_s4, fi_v0, fi_v1, fi_v2, fi_v3, fi_v4, fi_v5, fi_n0, fi_n1, fi_n2, fi_mm, fi_stat, fi_alds, fi_tsw, List.getElem?_cons_zero, List.getElem?_cons_succ, List.set_cons_zero, List.set_cons_succ, List.length_cons, List.length_nil, Option.toList_some, Option.toList_none, List.cons_append, List.nil_append, Value.category, true_and, k_0, k_1, k_2, k_3, k_4, false_implies, true_implies, reduceCtorEq, bI_eq0]
    refine ⟨fun q => by simp [h, q], fun q => by simp [h, q]⟩
  have c28 : ∀ d, fs_R g m_X0_reasonAgainst d (0, 0) 28 [.ref t, .int (nI k), .int (nI e)] [] ((S, fr), σ, τ) (fun r M' => r = some (.int (if ¬ σ (t + 1) e = 0 ∧ ¬ σ (t + 3) e = σ (p + 8) k then 2 else if ¬ σ (t + 4) e + σ (p + 7) k ≤ σ (p + 11) 0 then 3 else if wbF (σ (t + 3)) (σ (t + 5)) (σ (p + 8) k) (σ (p + 9) k) e then 4 else 0)) ∧ ((S, fr), σ, τ) = M') := by
    intro d
    refine S_X0_reasonAgainst_28 ?_
    simp only [T_X0_reasonAgainst_28, fi_const, fi_iload, fi_aload, fi_istore, fi_astore, fi_iinc, fi_bin, fi_div, fi_un, fi_dup, fi_dup2, fi_pop, fi_if, fi_cmp, fi_getf, fi_putf, fi_putr, fi_ald, fi_ast, fi_alen, fi_iret, fi_zret, fi_vret, fi_cut, fi_no, fi_s0, fi_s1, fi_s2, fi_s3, fi_s4, fi_v0, fi_v1, fi_v2, fi_v3, fi_v4, fi_v5, fi_n0, fi_n1, fi_n2, fi_mm, fi_stat, fi_alds, fi_tsw, List.getElem?_cons_zero, List.getElem?_cons_succ, List.set_cons_zero, List.set_cons_succ, List.length_cons, List.length_nil, Option.toList_some, Option.toList_none, List.cons_append, List.nil_append, Value.category, true_and, k_0, k_1, k_2, k_3, k_4, false_implies, true_implies, reduceCtorEq, hD.1, hP.1, hD.2.2.2.1, hP.2.2.2.2.2.2.2.2.1, nI_clamp (show k < 2 ^ 31 by omega), nI_clamp (show e < 2 ^ 31 by omega)]
    refine ⟨by decide, ⟨_, rfl⟩, (c_isFree hD he).mono ?_⟩
    rintro r M' ⟨rfl, rfl⟩
    simp only [fi_const, fi_iload, fi_aload, fi_istore, fi_astore, fi_iinc, fi_bin, fi_div, fi_un, fi_dup, fi_dup2, fi_pop, fi_if, fi_cmp, fi_getf, fi_putf, fi_putr, fi_ald, fi_ast, fi_alen, fi_iret, fi_zret, fi_vret, fi_cut, fi_no, fi_s0, fi_s1, fi_s2, fi_s3, fi_s4, fi_v0, fi_v1, fi_v2, fi_v3, fi_v4, fi_v5, fi_n0, fi_n1, fi_n2, fi_mm, fi_stat, fi_alds, fi_tsw, List.getElem?_cons_zero, List.getElem?_cons_succ, List.set_cons_zero, List.set_cons_succ, List.length_cons, List.length_nil, Option.toList_some, Option.toList_none, List.cons_append, List.nil_append, Value.category, true_and, k_0, k_1, k_2, k_3, k_4, false_implies, true_implies, reduceCtorEq, bI_eq0, decide_eq_false_iff_not, hD.1, hP.1, hD.2.2.2.1, hP.2.2.2.2.2.2.2.2.1, nI_clamp (show k < 2 ^ 31 by omega), nI_clamp (show e < 2 ^ 31 by omega), hik, hie]
    refine ⟨fun q => ⟨fun q2 => ?_, fun q2 => by simp [q, q2]⟩, fun q => ?_⟩
    · rw [if_neg (by simp [q2])]
      exact c56 d
    · rw [if_neg (by simp [Decidable.of_not_not q])]
      exact c56 d
  refine fs_enterC (by decide) (by simp [fs_ok]) (Nat.le_of_ble_eq_true rfl) (fun d => S_X0_reasonAgainst_0 ?_)
  show T_X0_reasonAgainst_0 g d _ [.ref t, .int (nI k), .int (nI e)] [] _
  simp only [T_X0_reasonAgainst_0, fi_const, fi_iload, fi_aload, fi_istore, fi_astore, fi_iinc, fi_bin, fi_div, fi_un, fi_dup, fi_dup2, fi_pop, fi_if, fi_cmp, fi_getf, fi_putf, fi_putr, fi_ald, fi_ast, fi_alen, fi_iret, fi_zret, fi_vret, fi_cut, fi_no, fi_s0, fi_s1, fi_s2, fi_s3, fi_s4, fi_v0, fi_v1, fi_v2, fi_v3, fi_v4, fi_v5, fi_n0, fi_n1, fi_n2, fi_mm, fi_stat, fi_alds, fi_tsw, List.getElem?_cons_zero, List.getElem?_cons_succ, List.set_cons_zero, List.set_cons_succ, List.length_cons, List.length_nil, Option.toList_some, Option.toList_none, List.cons_append, List.nil_append, Value.category, true_and, k_0, k_1, k_2, k_3, k_4, false_implies, true_implies, reduceCtorEq]
  refine ⟨by decide, ⟨_, hD.1⟩, (c_isFree hD he).mono ?_⟩
  rintro r M' ⟨rfl, rfl⟩
  simp only [fi_const, fi_iload, fi_aload, fi_istore, fi_astore, fi_iinc, fi_bin, fi_div, fi_un, fi_dup, fi_dup2, fi_pop, fi_if, fi_cmp, fi_getf, fi_putf, fi_putr, fi_ald, fi_ast, fi_alen, fi_iret, fi_zret, fi_vret, fi_cut, fi_no, fi_s0, fi_s1, fi_s2, fi_s3, fi_s4, fi_v0, fi_v1, fi_v2, fi_v3, fi_v4, fi_v5, fi_n0, fi_n1, fi_n2, fi_mm, fi_stat, fi_alds, fi_tsw, List.getElem?_cons_zero, List.getElem?_cons_succ, List.set_cons_zero, List.set_cons_succ, List.length_cons, List.length_nil, Option.toList_some, Option.toList_none, List.cons_append, List.nil_append, Value.category, true_and, k_0, k_1, k_2, k_3, k_4, false_implies, true_implies, reduceCtorEq, bI_eq0, decide_eq_false_iff_not, hD.1, hP.1, hD.2.2.1, hP.2.2.2.2.2.2.1, nI_clamp (show k < 2 ^ 31 by omega), nI_clamp (show e < 2 ^ 31 by omega), hik, hie]
  unfold rsF
  refine ⟨fun q => ⟨fun q2 => ?_, fun q2 => by simp [q, q2]⟩, fun q => ?_⟩
  · rw [if_neg (by simp [q2])]
    exact c28 d
  · rw [if_neg (by simp [Decidable.of_not_not q])]
    exact c28 d
/-- the reason against scene k on day e, of the days dy of n scenes -/
def reF (lo ni le ca : Nat → Int32) (cap : Int32) (dy : Nat → Int32) (n k e : Nat) : Int32 :=
  rsF (fun e => scF dy e n) (fun e => loF dy lo e n) (fun e => niF dy ni e n) (fun e => leF dy le e n) (fun e => caF dy ca e n) (lo k) (ni k) (le k) (ca k) cap e
theorem rsF_congr {sc lo ni le cs sc' lo' ni' le' cs' : Nat → Int32} {lk nk ek ck cap : Int32} (h : ∀ e, e < 12 → sc e = sc' e ∧ lo e = lo' e ∧ ni e = ni' e ∧ le e = le' e ∧ cs e = cs' e) {e : Nat} (he : e < 12) : rsF sc lo ni le cs lk nk ek ck cap e = rsF sc' lo' ni' le' cs' lk nk ek ck cap e := by
  obtain ⟨h1, h2, h3, h4, h5⟩ := h e he
  unfold rsF wbF
  rw [h1, h2, h3, h4]
  by_cases q : e + 1 < 12
  · obtain ⟨-, -, g3, -, g5⟩ := h (e + 1) q
    obtain ⟨-, -, f3, -, f5⟩ := h (e - 1) (by omega)
    rw [g3, g5, f3, f5]
  · obtain ⟨-, -, f3, -, f5⟩ := h (e - 1) (by omega)
    rw [f3, f5]
    simp [q]
def dyA (dy : Nat → Int32) (k : Nat) (x : Int32) : Nat → Int32 := fun j => if j = k then x else dy j
theorem c_moveScene (hD : shD S t p) (hP : shP S p) (hpt : p + 12 ≤ t) {nS : Nat} (hnS : nS ≤ 14) (hc : σ p 7 = nI nS) (hni : ∀ k, k < nS → σ (p + 8) k = 0 ∨ σ (p + 8) k = 1) {k e : Nat} (hk : k < nS) (he : e < 12) : fs_Ct g m_X0_moveScene [.ref t, .int (nI k), .int (nI e)] ((S, fr), σ, τ) (fun r M' => r = some (.int (reF (σ (p + 6)) (σ (p + 8)) (σ (p + 7)) (σ (p + 9)) (σ (p + 11) 0) (dyA (σ (p + 10)) k (-1)) nS k e)) ∧ ∃ σ', M' = ((S, fr), σ', τ) ∧ same σ σ' (inT t) ∧ (reF (σ (p + 6)) (σ (p + 8)) (σ (p + 7)) (σ (p + 9)) (σ (p + 11) 0) (dyA (σ (p + 10)) k (-1)) nS k e = 0 → ∃ σ1, same σ σ1 (inT t) ∧ shows σ1 t p (dyA (σ (p + 10)) k (-1)) nS ∧ plus σ1 σ' t p k (nI e))) := by
  refine fs_enterC (by decide) (by simp [fs_ok]) (Nat.le_of_ble_eq_true rfl) (fun d => S_X0_moveScene_0 ?_)
  show T_X0_moveScene_0 g d _ [.ref t, .int (nI k), .int (nI e), .null] [] _
  simp only [T_X0_moveScene_0, fi_const, fi_iload, fi_aload, fi_istore, fi_astore, fi_iinc, fi_bin, fi_div, fi_un, fi_dup, fi_dup2, fi_pop, fi_if, fi_cmp, fi_getf, fi_putf, fi_putr, fi_ald, fi_ast, fi_alen, fi_iret, fi_zret, fi_vret, fi_cut, fi_no, fi_s0, fi_s1, fi_s2, fi_s3, fi_s4, fi_v0, fi_v1, fi_v2, fi_v3, fi_v4, fi_v5, fi_n0, fi_n1, fi_n2, fi_mm, fi_stat, fi_alds, fi_tsw, List.getElem?_cons_zero, List.getElem?_cons_succ, List.set_cons_zero, List.set_cons_succ, List.length_cons, List.length_nil, Option.toList_some, Option.toList_none, List.cons_append, List.nil_append, Value.category, true_and, k_0, k_1, k_2, k_3, k_4, false_implies, true_implies, reduceCtorEq]
  refine ⟨by decide, ⟨_, hD.1⟩, (c_buildWithout hD hP hpt hnS _ hc hni).mono ?_⟩
  rintro r M' ⟨rfl, σ1, rfl, hs1, hv⟩
  have hv : shows σ1 t p (dyA (σ (p + 10)) k (-1)) nS := hv.congr (fun j hj => by
    simp only [dyW, dyA]
    simp only [nI_eq (show j < 2 ^ 31 by omega) (show k < 2 ^ 31 by omega)])
  simp only [fi_const, fi_iload, fi_aload, fi_istore, fi_astore, fi_iinc, fi_bin, fi_div, fi_un, fi_dup, fi_dup2, fi_pop, fi_if, fi_cmp, fi_getf, fi_putf, fi_putr, fi_ald, fi_ast, fi_alen, fi_iret, fi_zret, fi_vret, fi_cut, fi_no, fi_s0, fi_s1, fi_s2, fi_s3, fi_s4, fi_v0, fi_v1, fi_v2, fi_v3, fi_v4, fi_v5, fi_n0, fi_n1, fi_n2, fi_mm, fi_stat, fi_alds, fi_tsw, List.getElem?_cons_zero, List.getElem?_cons_succ, List.set_cons_zero, List.set_cons_succ, List.length_cons, List.length_nil, Option.toList_some, Option.toList_none, List.cons_append, List.nil_append, Value.category, true_and, k_0, k_1, k_2, k_3, k_4, false_implies, true_implies, reduceCtorEq]
  refine ⟨by decide, ⟨_, hD.1⟩, (c_reasonAgainst hD hP (by omega) he).mono ?_⟩
  rintro r M' ⟨rfl, rfl⟩
  have f6 : ∀ i, i < 12 → σ1 (p + i) = σ (p + i) := fun i hi => hs1 (p + i) (fun z => by have := z.1; omega)
  have er : rsF (σ1 (t + 1)) (σ1 (t + 2)) (σ1 (t + 3)) (σ1 (t + 4)) (σ1 (t + 5)) (σ1 (p + 6) k) (σ1 (p + 8) k) (σ1 (p + 7) k) (σ1 (p + 9) k) (σ1 (p + 11) 0) e = reF (σ (p + 6)) (σ (p + 8)) (σ (p + 7)) (σ (p + 9)) (σ (p + 11) 0) (dyA (σ (p + 10)) k (-1)) nS k e := by
    unfold reF
    rw [f6 6 (by decide), f6 7 (by decide), f6 8 (by decide), f6 9 (by decide), f6 11 (by decide)]
    refine rsF_congr (fun j hj => ?_) he
    have := hv j hj
    rw [f6 6 (by decide), f6 7 (by decide), f6 8 (by decide), f6 9 (by decide)] at this
    exact this
  rw [er]
  simp only [fi_const, fi_iload, fi_aload, fi_istore, fi_astore, fi_iinc, fi_bin, fi_div, fi_un, fi_dup, fi_dup2, fi_pop, fi_if, fi_cmp, fi_getf, fi_putf, fi_putr, fi_ald, fi_ast, fi_alen, fi_iret, fi_zret, fi_vret, fi_cut, fi_no, fi_s0, fi_s1, fi_s2, fi_s3, fi_s4, fi_v0, fi_v1, fi_v2, fi_v3, fi_v4, fi_v5, fi_n0, fi_n1, fi_n2, fi_mm, fi_stat, fi_alds, fi_tsw, List.getElem?_cons_zero, List.getElem?_cons_succ, List.set_cons_zero, List.set_cons_succ, List.length_cons, List.length_nil, Option.toList_some, Option.toList_none, List.cons_append, List.nil_append, Value.category, true_and, k_0, k_1, k_2, k_3, k_4, false_implies, true_implies, reduceCtorEq]
  refine ⟨fun q => ⟨by decide, ⟨_, hD.1⟩, (c_addScene hD hP hpt (by omega) _ (by rw [f6 8 (by decide)]; exact hni k hk)).mono ?_⟩, fun q => ⟨σ1, rfl, hs1, fun z => absurd z q⟩⟩
  rintro r M' ⟨rfl, σ', rfl, hs', hp⟩
  simp only [fi_const, fi_iload, fi_aload, fi_istore, fi_astore, fi_iinc, fi_bin, fi_div, fi_un, fi_dup, fi_dup2, fi_pop, fi_if, fi_cmp, fi_getf, fi_putf, fi_putr, fi_ald, fi_ast, fi_alen, fi_iret, fi_zret, fi_vret, fi_cut, fi_no, fi_s0, fi_s1, fi_s2, fi_s3, fi_s4, fi_v0, fi_v1, fi_v2, fi_v3, fi_v4, fi_v5, fi_n0, fi_n1, fi_n2, fi_mm, fi_stat, fi_alds, fi_tsw, List.getElem?_cons_zero, List.getElem?_cons_succ, List.set_cons_zero, List.set_cons_succ, List.length_cons, List.length_nil, Option.toList_some, Option.toList_none, List.cons_append, List.nil_append, Value.category, true_and, k_0, k_1, k_2, k_3, k_4, false_implies, true_implies, reduceCtorEq]
  exact ⟨σ', rfl, hs1.tr hs', fun _ => ⟨σ1, hs1, hv, hp⟩⟩
end PD4
