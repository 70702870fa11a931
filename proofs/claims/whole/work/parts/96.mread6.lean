/-! ===== the reference's reader: days ===== -/
def figE (b : Nat → Nat) (L : Nat) (lo hx : Int32) (k : Nat) : Option Er := if tK b L k = 2 then (if nI (tV b L k) < lo ∨ ¬ nI (tV b L k) ≤ hx then some (-12, tS b L k) else none) else some (-11, tS b L k)
section PR8
variable {g : fs_G} {d : Nat} {S : List fs_Sh} {fr : Bool} {σ : Nat → Nat → Int32} {τ : Nat → Nat → Int64} {b : Nat → Nat} {L : Nat} {Z : Zt} {k : Nat} {o : Option Er}
theorem l_figG41 (hM : shM S 56) {lo hi : Int32} {o0 : Option Er} (q : Bool) (h : MS σ b L Z k o) (ho : ofE o (wh q (-12) (tS b L k)) = ofE o0 (figE b L lo hi k)) (σ0 : Nat → Nat → Int32) (h0 : tfM σ0 σ) : fs_R g m_X9_figure d (0, 0) 41 [.ref 56, .int lo, .int hi] [.int (bI q), .ref 56] ((S, fr), σ, τ) (fun r M' => (∃ y, r = some (.int y) ∧ (ofE o0 (figE b L lo hi k) = none → y = nI (tV b L k))) ∧ ∃ σ', M' = ((S, fr), σ', τ) ∧ tfM σ0 σ' ∧ MS σ' b L Z k (ofE o0 (figE b L lo hi k))) := by
  refine S_X9_figure_41 ?_
  simp only [T_X9_figure_41, fi_const, fi_iload, fi_aload, fi_istore, fi_astore, fi_iinc, fi_bin, fi_div, fi_un, fi_dup, fi_dup2, fi_pop, fi_if, fi_cmp, fi_getf, fi_putf, fi_putr, fi_ald, fi_ast, fi_alen, fi_iret, fi_zret, fi_vret, fi_cut, fi_no, fi_s0, fi_s1, fi_s2, fi_s3, fi_s4, fi_v0, fi_v1, fi_v2, fi_v3, fi_v4, fi_v5, fi_n0, fi_n1, fi_n2, fi_mm, fi_stat, fi_alds, fi_tsw, List.getElem?_cons_zero, List.getElem?_cons_succ, List.set_cons_zero, List.set_cons_succ, List.length_cons, List.length_nil, Option.toList_some, Option.toList_none, List.cons_append, List.nil_append, Value.category, true_and, k_0, k_1, k_2, k_3, k_4, false_implies, true_implies, reduceCtorEq, hM.1]
  refine ⟨by decide, ⟨_, rfl⟩, (c_failsIf hM (c := q) (fun p => by unfold erC; simp) rfl h).mono ?_⟩
  rintro r M' ⟨rfl, σ1, rfl, f1, f2⟩
  rw [ho] at f2
  have he := f2.e0
  simp only [fi_const, fi_iload, fi_aload, fi_istore, fi_astore, fi_iinc, fi_bin, fi_div, fi_un, fi_dup, fi_dup2, fi_pop, fi_if, fi_cmp, fi_getf, fi_putf, fi_putr, fi_ald, fi_ast, fi_alen, fi_iret, fi_zret, fi_vret, fi_cut, fi_no, fi_s0, fi_s1, fi_s2, fi_s3, fi_s4, fi_v0, fi_v1, fi_v2, fi_v3, fi_v4, fi_v5, fi_n0, fi_n1, fi_n2, fi_mm, fi_stat, fi_alds, fi_tsw, List.getElem?_cons_zero, List.getElem?_cons_succ, List.set_cons_zero, List.set_cons_succ, List.length_cons, List.length_nil, Option.toList_some, Option.toList_none, List.cons_append, List.nil_append, Value.category, true_and, k_0, k_1, k_2, k_3, k_4, false_implies, true_implies, reduceCtorEq, hM.1]
  refine ⟨fun z => ?_, fun z => ?_⟩
  · refine ⟨⟨_, rfl, fun w => ?_⟩, σ1, rfl, h0.tr (tfM.fa f1), f2⟩
    have hT := (f2.2.2.2.1 w).2.1
    refine hT.2.2.2.1 ?_
    have := (ofE_n.mp w).2
    unfold figE at this
    by_cases v : tK b L k = 2
    · exact v
    · rw [if_neg v] at this; cases this
  · exact ⟨⟨_, rfl, fun w => absurd (he.mpr w) z⟩, σ1, rfl, h0.tr (tfM.fa f1), f2⟩
theorem l_figG14 (hM : shM S 56) {lo hi : Int32} (q : Bool) (h : MS σ b L Z k o) (hq : o = none → q = !decide (tK b L k = 2)) : fs_R g m_X9_figure d (0, 0) 14 [.ref 56, .int lo, .int hi] [.int (bI q), .ref 56] ((S, fr), σ, τ) (fun r M' => (∃ y, r = some (.int y) ∧ (ofE o (figE b L lo hi k) = none → y = nI (tV b L k))) ∧ ∃ σ', M' = ((S, fr), σ', τ) ∧ tfM σ σ' ∧ MS σ' b L Z k (ofE o (figE b L lo hi k))) := by
  refine S_X9_figure_14 ?_
  simp only [T_X9_figure_14, fi_const, fi_iload, fi_aload, fi_istore, fi_astore, fi_iinc, fi_bin, fi_div, fi_un, fi_dup, fi_dup2, fi_pop, fi_if, fi_cmp, fi_getf, fi_putf, fi_putr, fi_ald, fi_ast, fi_alen, fi_iret, fi_zret, fi_vret, fi_cut, fi_no, fi_s0, fi_s1, fi_s2, fi_s3, fi_s4, fi_v0, fi_v1, fi_v2, fi_v3, fi_v4, fi_v5, fi_n0, fi_n1, fi_n2, fi_mm, fi_stat, fi_alds, fi_tsw, List.getElem?_cons_zero, List.getElem?_cons_succ, List.set_cons_zero, List.set_cons_succ, List.length_cons, List.length_nil, Option.toList_some, Option.toList_none, List.cons_append, List.nil_append, Value.category, true_and, k_0, k_1, k_2, k_3, k_4, false_implies, true_implies, reduceCtorEq, hM.1]
  refine ⟨by decide, ⟨_, rfl⟩, (c_failsIf hM (c := q) (fun p => by unfold erC; simp) rfl h).mono ?_⟩
  rintro r M' ⟨rfl, σ1, rfl, f1, f2⟩
  simp only [fi_const, fi_iload, fi_aload, fi_istore, fi_astore, fi_iinc, fi_bin, fi_div, fi_un, fi_dup, fi_dup2, fi_pop, fi_if, fi_cmp, fi_getf, fi_putf, fi_putr, fi_ald, fi_ast, fi_alen, fi_iret, fi_zret, fi_vret, fi_cut, fi_no, fi_s0, fi_s1, fi_s2, fi_s3, fi_s4, fi_v0, fi_v1, fi_v2, fi_v3, fi_v4, fi_v5, fi_n0, fi_n1, fi_n2, fi_mm, fi_stat, fi_alds, fi_tsw, List.getElem?_cons_zero, List.getElem?_cons_succ, List.set_cons_zero, List.set_cons_succ, List.length_cons, List.length_nil, Option.toList_some, Option.toList_none, List.cons_append, List.nil_append, Value.category, true_and, k_0, k_1, k_2, k_3, k_4, false_implies, true_implies, reduceCtorEq, hM.1]
  have key : ∀ q2 : Bool, (ofE o (wh q (-11) (tS b L k)) = none → q2 = decide (nI (tV b L k) < lo ∨ ¬ nI (tV b L k) ≤ hi)) → ofE (ofE o (wh q (-11) (tS b L k))) (wh q2 (-12) (tS b L k)) = ofE o (figE b L lo hi k) := by
    intro q2 hq2
    cases o with
    | some e => rfl
    | none =>
      have := hq rfl
      unfold figE
      by_cases v : tK b L k = 2
      · rw [decide_eq_true v] at this
        subst this
        have := hq2 rfl
        rw [if_pos v]
        show wh q2 (-12) (tS b L k) = _
        by_cases u : nI (tV b L k) < lo ∨ ¬ nI (tV b L k) ≤ hi
        · rw [if_pos u, this, decide_eq_true u]; rfl
        · rw [if_neg u, this, decide_eq_false u]; rfl
      · rw [decide_eq_false v] at this
        subst this
        rw [if_neg v]; rfl
  have hval : ofE o (wh q (-11) (tS b L k)) = none → σ1 56 14 = nI (tV b L k) := fun w => by
    refine (f2.2.2.2.1 w).2.1.2.2.2.1 ?_
    obtain ⟨w1, w2⟩ := ofE_n.mp w
    have := hq w1
    rw [wh_m.mp w2] at this
    by_cases v : tK b L k = 2
    · exact v
    · rw [decide_eq_false v] at this; cases this
  refine ⟨fun z => ?_, fun z => ⟨fun z2 => ?_, fun z2 => ?_⟩⟩
  · exact l_figG41 hM true f2 (key true (fun w => (decide_eq_true (Or.inl (by rw [hval w] at z; exact z))).symm)) σ (tfM.fa f1)
  · refine l_figG41 hM false f2 (key false (fun w => (decide_eq_false (fun u => ?_)).symm)) σ (tfM.fa f1)
    rw [hval w] at z z2
    exact u.elim z (fun v => v z2)
  · refine l_figG41 hM true f2 (key true (fun w => (decide_eq_true (Or.inr ?_)).symm)) σ (tfM.fa f1)
    rw [hval w] at z2
    exact z2
theorem c_figureG (hM : shM S 56) {lo hi : Int32} (h : MS σ b L Z k o) : fs_Ct g m_X9_figure [.ref 56, .int lo, .int hi] ((S, fr), σ, τ) (fun r M' => (∃ y, r = some (.int y) ∧ (ofE o (figE b L lo hi k) = none → y = nI (tV b L k))) ∧ ∃ σ', M' = ((S, fr), σ', τ) ∧ tfM σ σ' ∧ MS σ' b L Z k (ofE o (figE b L lo hi k))) := by
  have hk4 := tK_le b L k
  refine fs_enterC (by decide) (by simp [fs_ok]) (Nat.le_of_ble_eq_true rfl) (fun d => S_X9_figure_0 ?_)
  show T_X9_figure_0 g d _ [.ref 56, .int lo, .int hi] [] _
  simp only [T_X9_figure_0, fi_const, fi_iload, fi_aload, fi_istore, fi_astore, fi_iinc, fi_bin, fi_div, fi_un, fi_dup, fi_dup2, fi_pop, fi_if, fi_cmp, fi_getf, fi_putf, fi_putr, fi_ald, fi_ast, fi_alen, fi_iret, fi_zret, fi_vret, fi_cut, fi_no, fi_s0, fi_s1, fi_s2, fi_s3, fi_s4, fi_v0, fi_v1, fi_v2, fi_v3, fi_v4, fi_v5, fi_n0, fi_n1, fi_n2, fi_mm, fi_stat, fi_alds, fi_tsw, List.getElem?_cons_zero, List.getElem?_cons_succ, List.set_cons_zero, List.set_cons_succ, List.length_cons, List.length_nil, Option.toList_some, Option.toList_none, List.cons_append, List.nil_append, Value.category, true_and, k_0, k_1, k_2, k_3, k_4, false_implies, true_implies, reduceCtorEq]
  simp only [fi_const, fi_iload, fi_aload, fi_istore, fi_astore, fi_iinc, fi_bin, fi_div, fi_un, fi_dup, fi_dup2, fi_pop, fi_if, fi_cmp, fi_getf, fi_putf, fi_putr, fi_ald, fi_ast, fi_alen, fi_iret, fi_zret, fi_vret, fi_cut, fi_no, fi_s0, fi_s1, fi_s2, fi_s3, fi_s4, fi_v0, fi_v1, fi_v2, fi_v3, fi_v4, fi_v5, fi_n0, fi_n1, fi_n2, fi_mm, fi_stat, fi_alds, fi_tsw, List.getElem?_cons_zero, List.getElem?_cons_succ, List.set_cons_zero, List.set_cons_succ, List.length_cons, List.length_nil, Option.toList_some, Option.toList_none, List.cons_append, List.nil_append, Value.category, true_and, k_0, k_1, k_2, k_3, k_4, false_implies, true_implies, reduceCtorEq, hM.1]
  refine ⟨fun z => ?_, fun z => ?_⟩
  · exact l_figG14 hM false h (fun w => by rw [(h.2.2.2.1 w).2.1.1, kM_2 hk4] at z; rw [decide_eq_true z]; rfl)
  · exact l_figG14 hM true h (fun w => by rw [(h.2.2.2.1 w).2.1.1, kM_2 hk4] at z; rw [decide_eq_false z]; rfl)
theorem figE_s {nS : Nat} (hn : nS ≤ 14) : figE b L 0 (nI nS - 1) k = if tK b L k = 2 then (if nS ≤ tV b L k then some (-12, tS b L k) else none) else some (-11, tS b L k) := by
  have hv := tV_le b L k
  unfold figE
  by_cases v : tK b L k = 2
  · rw [if_pos v, if_pos v]
    have hp : ¬ nI (tV b L k) < 0 := nI_pos (by omega)
    by_cases u : nS ≤ tV b L k
    · rw [if_pos u, if_pos (Or.inr ?_)]
      by_cases z : nS = 0
      · subst z
        rw [show nI 0 - 1 = -1 from rfl]
        intro w
        exact hp (Int32.lt_of_le_of_lt w (by decide))
      · rw [show (1 : Int32) = nI 1 from rfl, pk_sub (by omega), nI_leI (by omega) (by omega)]
        omega
    · rw [if_neg u, if_neg ?_]
      intro w
      rcases w with w | w
      · exact hp w
      · rw [show (1 : Int32) = nI 1 from rfl, pk_sub (by omega), nI_leI (by omega) (by omega)] at w
        omega
  · rw [if_neg v, if_neg v]
section
variable {σ0 : Nat → Nat → Int32} {e : Er} {v1 v3 : Value} {x : Int32}
theorem l_rd19E (hM : shM S 56) (h : MS σ b L Z k (some e)) (h0 : loM σ0 σ) : fs_R g m_X9_readDay d (0, 0) 19 [.ref 56, v1, .int x, v3] [] ((S, fr), σ, τ) (rdM S fr τ σ0 b L (.inl e)) := by
  have he := h.e0
  refine S_X9_readDay_19 ?_
  simp only [T_X9_readDay_19, fi_const, fi_iload, fi_aload, fi_istore, fi_astore, fi_iinc, fi_bin, fi_div, fi_un, fi_dup, fi_dup2, fi_pop, fi_if, fi_cmp, fi_getf, fi_putf, fi_putr, fi_ald, fi_ast, fi_alen, fi_iret, fi_zret, fi_vret, fi_cut, fi_no, fi_s0, fi_s1, fi_s2, fi_s3, fi_s4, fi_v0, fi_v1, fi_v2, fi_v3, fi_v4, fi_v5, fi_n0, fi_n1, fi_n2, fi_mm, fi_stat, fi_alds, fi_tsw, List.getElem?_cons_zero, List.getElem?_cons_succ, List.set_cons_zero, List.set_cons_succ, List.length_cons, List.length_nil, Option.toList_some, Option.toList_none, List.cons_append, List.nil_append, Value.category, true_and, k_0, k_1, k_2, k_3, k_4, false_implies, true_implies, reduceCtorEq, hM.1]
  exact ⟨fun _ => ⟨rfl, σ, Z, k, some e, rfl, h0, h, rfl⟩, fun _ => ⟨fun w => (by cases he.mp w), fun _ => ⟨rfl, σ, Z, k, some e, rfl, h0, h, rfl⟩⟩⟩
theorem l_rd118E (hM : shM S 56) (h : MS σ b L Z k (some e)) (h0 : loM σ0 σ) {v2 : Value} : fs_R g m_X9_readDay d (0, 0) 118 [.ref 56, v1, v2, v3] [] ((S, fr), σ, τ) (rdM S fr τ σ0 b L (.inl e)) := by
  refine S_X9_readDay_118 ?_
  simp only [T_X9_readDay_118, fi_const, fi_iload, fi_aload, fi_istore, fi_astore, fi_iinc, fi_bin, fi_div, fi_un, fi_dup, fi_dup2, fi_pop, fi_if, fi_cmp, fi_getf, fi_putf, fi_putr, fi_ald, fi_ast, fi_alen, fi_iret, fi_zret, fi_vret, fi_cut, fi_no, fi_s0, fi_s1, fi_s2, fi_s3, fi_s4, fi_v0, fi_v1, fi_v2, fi_v3, fi_v4, fi_v5, fi_n0, fi_n1, fi_n2, fi_mm, fi_stat, fi_alds, fi_tsw, List.getElem?_cons_zero, List.getElem?_cons_succ, List.set_cons_zero, List.set_cons_succ, List.length_cons, List.length_nil, Option.toList_some, Option.toList_none, List.cons_append, List.nil_append, Value.category, true_and, k_0, k_1, k_2, k_3, k_4, false_implies, true_implies, reduceCtorEq, hM.1]
  refine ⟨by decide, ⟨_, rfl⟩, (c_goOn hM h).mono ?_⟩
  rintro r M' ⟨rfl, σ1, rfl, f1, f2⟩
  simp only [fi_const, fi_iload, fi_aload, fi_istore, fi_astore, fi_iinc, fi_bin, fi_div, fi_un, fi_dup, fi_dup2, fi_pop, fi_if, fi_cmp, fi_getf, fi_putf, fi_putr, fi_ald, fi_ast, fi_alen, fi_iret, fi_zret, fi_vret, fi_cut, fi_no, fi_s0, fi_s1, fi_s2, fi_s3, fi_s4, fi_v0, fi_v1, fi_v2, fi_v3, fi_v4, fi_v5, fi_n0, fi_n1, fi_n2, fi_mm, fi_stat, fi_alds, fi_tsw, List.getElem?_cons_zero, List.getElem?_cons_succ, List.set_cons_zero, List.set_cons_succ, List.length_cons, List.length_nil, Option.toList_some, Option.toList_none, List.cons_append, List.nil_append, Value.category, true_and, k_0, k_1, k_2, k_3, k_4, false_implies, true_implies, reduceCtorEq, hM.1]
  exact ⟨fun _ => l_rd19E hM f2 (h0.tr (tfM.tk f1).lo), fun _ => l_rd19E hM f2 (h0.tr (tfM.tk f1).lo)⟩
theorem l_rd97 (hM : shM S 56) {q : Bool} {y : Int32} {v2 : Value} {x1 : Int32} (h : MS σ b L Z k o) (ho : ofE o (wh q (-16) (tS b L k)) = some e) (h0 : loM σ0 σ) : fs_R g m_X9_readDay d (0, 0) 97 [.ref 56, .int x1, v2, .int y] [.int (bI q), .ref 56] ((S, fr), σ, τ) (rdM S fr τ σ0 b L (.inl e)) := by
  refine S_X9_readDay_97 ?_
  simp only [T_X9_readDay_97, fi_const, fi_iload, fi_aload, fi_istore, fi_astore, fi_iinc, fi_bin, fi_div, fi_un, fi_dup, fi_dup2, fi_pop, fi_if, fi_cmp, fi_getf, fi_putf, fi_putr, fi_ald, fi_ast, fi_alen, fi_iret, fi_zret, fi_vret, fi_cut, fi_no, fi_s0, fi_s1, fi_s2, fi_s3, fi_s4, fi_v0, fi_v1, fi_v2, fi_v3, fi_v4, fi_v5, fi_n0, fi_n1, fi_n2, fi_mm, fi_stat, fi_alds, fi_tsw, List.getElem?_cons_zero, List.getElem?_cons_succ, List.set_cons_zero, List.set_cons_succ, List.length_cons, List.length_nil, Option.toList_some, Option.toList_none, List.cons_append, List.nil_append, Value.category, true_and, k_0, k_1, k_2, k_3, k_4, false_implies, true_implies, reduceCtorEq, hM.1]
  refine ⟨by decide, ⟨_, rfl⟩, (c_failsIf hM (c := q) (fun p => by unfold erC; simp) rfl h).mono ?_⟩
  rintro r M' ⟨rfl, σ1, rfl, f1, f2⟩
  rw [ho] at f2
  have he := f2.e0
  simp only [fi_const, fi_iload, fi_aload, fi_istore, fi_astore, fi_iinc, fi_bin, fi_div, fi_un, fi_dup, fi_dup2, fi_pop, fi_if, fi_cmp, fi_getf, fi_putf, fi_putr, fi_ald, fi_ast, fi_alen, fi_iret, fi_zret, fi_vret, fi_cut, fi_no, fi_s0, fi_s1, fi_s2, fi_s3, fi_s4, fi_v0, fi_v1, fi_v2, fi_v3, fi_v4, fi_v5, fi_n0, fi_n1, fi_n2, fi_mm, fi_stat, fi_alds, fi_tsw, List.getElem?_cons_zero, List.getElem?_cons_succ, List.set_cons_zero, List.set_cons_succ, List.length_cons, List.length_nil, Option.toList_some, Option.toList_none, List.cons_append, List.nil_append, Value.category, true_and, k_0, k_1, k_2, k_3, k_4, false_implies, true_implies, reduceCtorEq, hM.1]
  exact ⟨fun w => (by cases he.mp w), fun _ => l_rd118E hM f2 (h0.tr (tfM.fa f1).lo)⟩
theorem l_rd70 (hM : shM S 56) {q : Bool} {y : Int32} {v2 : Value} {x1 : Int32} (h : MS σ b L Z k o) (ho : ofE o (wh q (-14) (tS b L k)) = some e) (h0 : loM σ0 σ) : fs_R g m_X9_readDay d (0, 0) 70 [.ref 56, .int x1, v2, .int y] [.int (bI q), .ref 56] ((S, fr), σ, τ) (rdM S fr τ σ0 b L (.inl e)) := by
  refine S_X9_readDay_70 ?_
  simp only [T_X9_readDay_70, fi_const, fi_iload, fi_aload, fi_istore, fi_astore, fi_iinc, fi_bin, fi_div, fi_un, fi_dup, fi_dup2, fi_pop, fi_if, fi_cmp, fi_getf, fi_putf, fi_putr, fi_ald, fi_ast, fi_alen, fi_iret, fi_zret, fi_vret, fi_cut, fi_no, fi_s0, fi_s1, fi_s2, fi_s3, fi_s4, fi_v0, fi_v1, fi_v2, fi_v3, fi_v4, fi_v5, fi_n0, fi_n1, fi_n2, fi_mm, fi_stat, fi_alds, fi_tsw, List.getElem?_cons_zero, List.getElem?_cons_succ, List.set_cons_zero, List.set_cons_succ, List.length_cons, List.length_nil, Option.toList_some, Option.toList_none, List.cons_append, List.nil_append, Value.category, true_and, k_0, k_1, k_2, k_3, k_4, false_implies, true_implies, reduceCtorEq, hM.1]
  refine ⟨by decide, ⟨_, rfl⟩, (c_failsIf hM (c := q) (fun p => by unfold erC; simp) rfl h).mono ?_⟩
  rintro r M' ⟨rfl, σ1, rfl, f1, f2⟩
  rw [ho] at f2
  have he := f2.e0
  simp only [fi_const, fi_iload, fi_aload, fi_istore, fi_astore, fi_iinc, fi_bin, fi_div, fi_un, fi_dup, fi_dup2, fi_pop, fi_if, fi_cmp, fi_getf, fi_putf, fi_putr, fi_ald, fi_ast, fi_alen, fi_iret, fi_zret, fi_vret, fi_cut, fi_no, fi_s0, fi_s1, fi_s2, fi_s3, fi_s4, fi_v0, fi_v1, fi_v2, fi_v3, fi_v4, fi_v5, fi_n0, fi_n1, fi_n2, fi_mm, fi_stat, fi_alds, fi_tsw, List.getElem?_cons_zero, List.getElem?_cons_succ, List.set_cons_zero, List.set_cons_succ, List.length_cons, List.length_nil, Option.toList_some, Option.toList_none, List.cons_append, List.nil_append, Value.category, true_and, k_0, k_1, k_2, k_3, k_4, false_implies, true_implies, reduceCtorEq, hM.1]
  exact ⟨fun w => (by cases he.mp w), fun _ => l_rd97 (q := false) hM f2 rfl (h0.tr (tfM.fa f1).lo)⟩
end
def dyT (Z : Zt) (p : Er ⊕ ((Nat → Int32) × Nat)) : Er ⊕ (Zt × Nat) := match p with
    | .inl e => .inl e
    | .inr (N, k') => .inr ((Z.1, N, Z.2.2.1, Z.2.2.2.1, Z.2.2.2.2), k')
theorem l_rd19 (hM : shM S 56) (σ0 : Nat → Nat → Int32) {e : Nat} (he : e < 12) : ∀ n k N σ z, unS N Z.2.2.1.2.2 < n → MS σ b L (Z.1, N, Z.2.2.1, Z.2.2.2.1, Z.2.2.2.2) k none → loM σ0 σ → fs_R g m_X9_readDay d (0, 0) 19 [.ref 56, .int (nI e), .int 1, z] [] ((S, fr), σ, τ) (rdM S fr τ σ0 b L (pSem b L (dyT Z (pDays b L Z.1 Z.2.2.1.2.2 e n k N))))
  | 0, k, N, σ, z, hn, h, h0 => by omega
  | n + 1, k, N, σ, z, hn, h, h0 => by
    obtain ⟨c0, c1, c2, c3, c4, c5⟩ := h.cn
    simp only at c0 c1 c2 c3 c4 c5
    have i82 : vp_in 82 83 := pk_in 82 83 (by decide) (by decide) (by decide)
    have e16 := h.e0.mpr rfl
    refine S_X9_readDay_19 ?_
    simp only [T_X9_readDay_19, fi_const, fi_iload, fi_aload, fi_istore, fi_astore, fi_iinc, fi_bin, fi_div, fi_un, fi_dup, fi_dup2, fi_pop, fi_if, fi_cmp, fi_getf, fi_putf, fi_putr, fi_ald, fi_ast, fi_alen, fi_iret, fi_zret, fi_vret, fi_cut, fi_no, fi_s0, fi_s1, fi_s2, fi_s3, fi_s4, fi_v0, fi_v1, fi_v2, fi_v3, fi_v4, fi_v5, fi_n0, fi_n1, fi_n2, fi_mm, fi_stat, fi_alds, fi_tsw, List.getElem?_cons_zero, List.getElem?_cons_succ, List.set_cons_zero, List.set_cons_succ, List.length_cons, List.length_nil, Option.toList_some, Option.toList_none, List.cons_append, List.nil_append, Value.category, true_and, k_0, k_1, k_2, k_3, k_4, false_implies, true_implies, reduceCtorEq, hM.1, e16]
    simp only [hM.2.2.1, k_82, show 56 + 2 = 58 from rfl, c2]
    refine ⟨fun w => absurd w (by decide), fun _ => ⟨⟨trivial, i82, by decide, ⟨_, rfl⟩, (c_figureG hM h).mono ?_⟩, fun w => absurd trivial w⟩⟩
    rintro r M' ⟨⟨y, rfl, hy⟩, σ1, rfl, f1, f2⟩
    replace hy : figE b L 0 (nI Z.2.2.1.2.2 - 1) k = none → y = nI (tV b L k) := hy
    replace f2 : MS σ1 b L (Z.1, N, Z.2.2.1, Z.2.2.2.1, Z.2.2.2.2) k (figE b L 0 (nI Z.2.2.1.2.2 - 1) k) := f2
    have h01 := h0.tr f1.lo
    have he1 := f2.e0
    rw [figE_s c5] at hy f2 he1
    simp only [pDays, eScn]
    simp only [fi_const, fi_iload, fi_aload, fi_istore, fi_astore, fi_iinc, fi_bin, fi_div, fi_un, fi_dup, fi_dup2, fi_pop, fi_if, fi_cmp, fi_getf, fi_putf, fi_putr, fi_ald, fi_ast, fi_alen, fi_iret, fi_zret, fi_vret, fi_cut, fi_no, fi_s0, fi_s1, fi_s2, fi_s3, fi_s4, fi_v0, fi_v1, fi_v2, fi_v3, fi_v4, fi_v5, fi_n0, fi_n1, fi_n2, fi_mm, fi_stat, fi_alds, fi_tsw, List.getElem?_cons_zero, List.getElem?_cons_succ, List.set_cons_zero, List.set_cons_succ, List.length_cons, List.length_nil, Option.toList_some, Option.toList_none, List.cons_append, List.nil_append, Value.category, true_and, k_0, k_1, k_2, k_3, k_4, false_implies, true_implies, reduceCtorEq, hM.1]
    by_cases q1 : tK b L k = 2
    · rw [if_pos q1] at hy f2 he1 ⊢
      by_cases q2 : Z.2.2.1.2.2 ≤ tV b L k
      · rw [if_pos q2] at hy f2 he1 ⊢
        refine ⟨fun w => (by cases he1.mp w), fun _ => ?_⟩
        exact l_rd70 (q := false) hM f2 rfl h01
      · rw [if_neg q2] at hy f2 he1 ⊢
        have ey := hy rfl
        subst ey
        have e60 : σ1 60 = N := (f2.2.2.2.1 rfl).2.2.1
        have i18 : vp_in (nI (4 + tV b L k)) 18 := vp_in_nI (by omega) (by decide)
        rw [he1.mpr rfl]
        simp only [hM.2.2.2.2.1, show 56 + 4 = 60 from rfl, fi_const, fi_iload, fi_aload, fi_istore, fi_astore, fi_iinc, fi_bin, fi_div, fi_un, fi_dup, fi_dup2, fi_pop, fi_if, fi_cmp, fi_getf, fi_putf, fi_putr, fi_ald, fi_ast, fi_alen, fi_iret, fi_zret, fi_vret, fi_cut, fi_no, fi_s0, fi_s1, fi_s2, fi_s3, fi_s4, fi_v0, fi_v1, fi_v2, fi_v3, fi_v4, fi_v5, fi_n0, fi_n1, fi_n2, fi_mm, fi_stat, fi_alds, fi_tsw, List.getElem?_cons_zero, List.getElem?_cons_succ, List.set_cons_zero, List.set_cons_succ, List.length_cons, List.length_nil, Option.toList_some, Option.toList_none, List.cons_append, List.nil_append, Value.category, true_and, k_0, k_1, k_2, k_3, k_4, false_implies, true_implies, reduceCtorEq, li_4, i18, nI_clamp (show 4 + tV b L k < 2 ^ 31 by omega), e60]
        refine ⟨⟨fun q3 => ?_, fun q3 => ?_⟩, fun w => absurd trivial w⟩
        · rw [if_pos q3]
          -- 70, no fault
          refine S_X9_readDay_70 ?_
          simp only [T_X9_readDay_70, fi_const, fi_iload, fi_aload, fi_istore, fi_astore, fi_iinc, fi_bin, fi_div, fi_un, fi_dup, fi_dup2, fi_pop, fi_if, fi_cmp, fi_getf, fi_putf, fi_putr, fi_ald, fi_ast, fi_alen, fi_iret, fi_zret, fi_vret, fi_cut, fi_no, fi_s0, fi_s1, fi_s2, fi_s3, fi_s4, fi_v0, fi_v1, fi_v2, fi_v3, fi_v4, fi_v5, fi_n0, fi_n1, fi_n2, fi_mm, fi_stat, fi_alds, fi_tsw, List.getElem?_cons_zero, List.getElem?_cons_succ, List.set_cons_zero, List.set_cons_succ, List.length_cons, List.length_nil, Option.toList_some, Option.toList_none, List.cons_append, List.nil_append, Value.category, true_and, k_0, k_1, k_2, k_3, k_4, false_implies, true_implies, reduceCtorEq, hM.1]
          refine ⟨by decide, ⟨_, rfl⟩, (c_failsIf hM (c := false) (fun p => by unfold erC; simp) rfl f2).mono ?_⟩
          rintro r M' ⟨rfl, σ2, rfl, f3, f4⟩
          replace f4 : MS σ2 b L (Z.1, N, Z.2.2.1, Z.2.2.2.1, Z.2.2.2.2) k none := f4
          have h02 := h01.tr (tfM.fa f3).lo
          have e16 := f4.e0.mpr rfl
          have e60 : σ2 60 = N := (f4.2.2.2.1 rfl).2.2.1
          have e58 : σ2 58 = Z.1 := f4.2.1
          simp only [fi_const, fi_iload, fi_aload, fi_istore, fi_astore, fi_iinc, fi_bin, fi_div, fi_un, fi_dup, fi_dup2, fi_pop, fi_if, fi_cmp, fi_getf, fi_putf, fi_putr, fi_ald, fi_ast, fi_alen, fi_iret, fi_zret, fi_vret, fi_cut, fi_no, fi_s0, fi_s1, fi_s2, fi_s3, fi_s4, fi_v0, fi_v1, fi_v2, fi_v3, fi_v4, fi_v5, fi_n0, fi_n1, fi_n2, fi_mm, fi_stat, fi_alds, fi_tsw, List.getElem?_cons_zero, List.getElem?_cons_succ, List.set_cons_zero, List.set_cons_succ, List.length_cons, List.length_nil, Option.toList_some, Option.toList_none, List.cons_append, List.nil_append, Value.category, true_and, k_0, k_1, k_2, k_3, k_4, false_implies, true_implies, reduceCtorEq, hM.1, e16]
          refine ⟨⟨by decide, ⟨_, rfl⟩, (c_reason (m := 56) hM c5 f4.cn.2.2.1 (k := tV b L k) (e := e) (by omega)).mono ?_⟩, fun w => absurd trivial w⟩
          rintro r M' ⟨rfl, rfl⟩
          rw [show 56 + 2 = 58 from rfl, show 56 + 4 = 60 from rfl, e58, e60]
          simp only [fi_const, fi_iload, fi_aload, fi_istore, fi_astore, fi_iinc, fi_bin, fi_div, fi_un, fi_dup, fi_dup2, fi_pop, fi_if, fi_cmp, fi_getf, fi_putf, fi_putr, fi_ald, fi_ast, fi_alen, fi_iret, fi_zret, fi_vret, fi_cut, fi_no, fi_s0, fi_s1, fi_s2, fi_s3, fi_s4, fi_v0, fi_v1, fi_v2, fi_v3, fi_v4, fi_v5, fi_n0, fi_n1, fi_n2, fi_mm, fi_stat, fi_alds, fi_tsw, List.getElem?_cons_zero, List.getElem?_cons_succ, List.set_cons_zero, List.set_cons_succ, List.length_cons, List.length_nil, Option.toList_some, Option.toList_none, List.cons_append, List.nil_append, Value.category, true_and, k_0, k_1, k_2, k_3, k_4, false_implies, true_implies, reduceCtorEq]
          refine ⟨fun q4 => ?_, fun q4 => ?_⟩
          · rw [if_pos (show reP Z.1 N Z.2.2.1.2.2 (tV b L k) e = 0 from q4)]
            -- 97, no fault
            refine S_X9_readDay_97 ?_
            simp only [T_X9_readDay_97, fi_const, fi_iload, fi_aload, fi_istore, fi_astore, fi_iinc, fi_bin, fi_div, fi_un, fi_dup, fi_dup2, fi_pop, fi_if, fi_cmp, fi_getf, fi_putf, fi_putr, fi_ald, fi_ast, fi_alen, fi_iret, fi_zret, fi_vret, fi_cut, fi_no, fi_s0, fi_s1, fi_s2, fi_s3, fi_s4, fi_v0, fi_v1, fi_v2, fi_v3, fi_v4, fi_v5, fi_n0, fi_n1, fi_n2, fi_mm, fi_stat, fi_alds, fi_tsw, List.getElem?_cons_zero, List.getElem?_cons_succ, List.set_cons_zero, List.set_cons_succ, List.length_cons, List.length_nil, Option.toList_some, Option.toList_none, List.cons_append, List.nil_append, Value.category, true_and, k_0, k_1, k_2, k_3, k_4, false_implies, true_implies, reduceCtorEq, hM.1]
            refine ⟨by decide, ⟨_, rfl⟩, (c_failsIf hM (c := false) (fun p => by unfold erC; simp) rfl f4).mono ?_⟩
            rintro r M' ⟨rfl, σ3, rfl, f5, f6⟩
            replace f6 : MS σ3 b L (Z.1, N, Z.2.2.1, Z.2.2.2.1, Z.2.2.2.2) k none := f6
            have h03 := h02.tr (tfM.fa f5).lo
            have e16 := f6.e0.mpr rfl
            simp only [fi_const, fi_iload, fi_aload, fi_istore, fi_astore, fi_iinc, fi_bin, fi_div, fi_un, fi_dup, fi_dup2, fi_pop, fi_if, fi_cmp, fi_getf, fi_putf, fi_putr, fi_ald, fi_ast, fi_alen, fi_iret, fi_zret, fi_vret, fi_cut, fi_no, fi_s0, fi_s1, fi_s2, fi_s3, fi_s4, fi_v0, fi_v1, fi_v2, fi_v3, fi_v4, fi_v5, fi_n0, fi_n1, fi_n2, fi_mm, fi_stat, fi_alds, fi_tsw, List.getElem?_cons_zero, List.getElem?_cons_succ, List.set_cons_zero, List.set_cons_succ, List.length_cons, List.length_nil, Option.toList_some, Option.toList_none, List.cons_append, List.nil_append, Value.category, true_and, k_0, k_1, k_2, k_3, k_4, false_implies, true_implies, reduceCtorEq, hM.1, e16]
            simp only [hM.2.2.2.2.1, show 56 + 4 = 60 from rfl, fi_const, fi_iload, fi_aload, fi_istore, fi_astore, fi_iinc, fi_bin, fi_div, fi_un, fi_dup, fi_dup2, fi_pop, fi_if, fi_cmp, fi_getf, fi_putf, fi_putr, fi_ald, fi_ast, fi_alen, fi_iret, fi_zret, fi_vret, fi_cut, fi_no, fi_s0, fi_s1, fi_s2, fi_s3, fi_s4, fi_v0, fi_v1, fi_v2, fi_v3, fi_v4, fi_v5, fi_n0, fi_n1, fi_n2, fi_mm, fi_stat, fi_alds, fi_tsw, List.getElem?_cons_zero, List.getElem?_cons_succ, List.set_cons_zero, List.set_cons_succ, List.length_cons, List.length_nil, Option.toList_some, Option.toList_none, List.cons_append, List.nil_append, Value.category, true_and, k_0, k_1, k_2, k_3, k_4, false_implies, true_implies, reduceCtorEq, li_4, i18, nI_clamp (show 4 + tV b L k < 2 ^ 31 by omega), nar_i]
            refine ⟨?_, fun w => absurd trivial w⟩
            have hN : fs_u σ3 60 (4 + tV b L k) (nI e) 60 = nwN N (tV b L k) (nI e) := by
              funext c
              have e60 : σ3 60 = N := (f6.2.2.2.1 rfl).2.2.1
              simp only [fs_u, nwN]
              rw [e60]
              by_cases wc : c = 4 + tV b L k
              · rw [if_pos ⟨trivial, wc⟩, if_pos wc]
              · rw [if_neg (fun z => wc z.2), if_neg wc]
            have f7 := f6.nw hN (okZ_day f6.2.2.1 (show tV b L k < Z.2.2.1.2.2 by omega) he q4)
            simp only at f7
            have h04 : loM σ0 (fs_u σ3 60 (4 + tV b L k) (nI e)) := h03.tr (fun a c hac => by simp only [fs_u]; rw [if_neg (by omega)])
            have hun := unS_nw (N := N) (show tV b L k < Z.2.2.1.2.2 by omega) he q3
            -- 118
            refine S_X9_readDay_118 ?_
            simp only [T_X9_readDay_118, fi_const, fi_iload, fi_aload, fi_istore, fi_astore, fi_iinc, fi_bin, fi_div, fi_un, fi_dup, fi_dup2, fi_pop, fi_if, fi_cmp, fi_getf, fi_putf, fi_putr, fi_ald, fi_ast, fi_alen, fi_iret, fi_zret, fi_vret, fi_cut, fi_no, fi_s0, fi_s1, fi_s2, fi_s3, fi_s4, fi_v0, fi_v1, fi_v2, fi_v3, fi_v4, fi_v5, fi_n0, fi_n1, fi_n2, fi_mm, fi_stat, fi_alds, fi_tsw, List.getElem?_cons_zero, List.getElem?_cons_succ, List.set_cons_zero, List.set_cons_succ, List.length_cons, List.length_nil, Option.toList_some, Option.toList_none, List.cons_append, List.nil_append, Value.category, true_and, k_0, k_1, k_2, k_3, k_4, false_implies, true_implies, reduceCtorEq, hM.1]
            refine ⟨by decide, ⟨_, rfl⟩, (c_goOn hM f7).mono ?_⟩
            rintro r M' ⟨rfl, σ4, rfl, f8, f9⟩
            have h05 := h04.tr (tfM.tk f8).lo
            have hk4 := tK_le b L (tE b L k)
            simp only [fi_const, fi_iload, fi_aload, fi_istore, fi_astore, fi_iinc, fi_bin, fi_div, fi_un, fi_dup, fi_dup2, fi_pop, fi_if, fi_cmp, fi_getf, fi_putf, fi_putr, fi_ald, fi_ast, fi_alen, fi_iret, fi_zret, fi_vret, fi_cut, fi_no, fi_s0, fi_s1, fi_s2, fi_s3, fi_s4, fi_v0, fi_v1, fi_v2, fi_v3, fi_v4, fi_v5, fi_n0, fi_n1, fi_n2, fi_mm, fi_stat, fi_alds, fi_tsw, List.getElem?_cons_zero, List.getElem?_cons_succ, List.set_cons_zero, List.set_cons_succ, List.length_cons, List.length_nil, Option.toList_some, Option.toList_none, List.cons_append, List.nil_append, Value.category, true_and, k_0, k_1, k_2, k_3, k_4, false_implies, true_implies, reduceCtorEq, hM.1]
            rw [(f9.2.2.2.1 rfl).2.1.1, kM_2 hk4]
            refine ⟨fun q5 => ?_, fun q5 => ?_⟩
            · rw [if_neg (by omega)]
              exact l_rd19 hM σ0 he n (tE b L k) (nwN N (tV b L k) (nI e)) σ4 _ (by omega) f9 h05
            · -- no more scenes
              refine S_X9_readDay_19 ?_
              simp only [T_X9_readDay_19, fi_const, fi_iload, fi_aload, fi_istore, fi_astore, fi_iinc, fi_bin, fi_div, fi_un, fi_dup, fi_dup2, fi_pop, fi_if, fi_cmp, fi_getf, fi_putf, fi_putr, fi_ald, fi_ast, fi_alen, fi_iret, fi_zret, fi_vret, fi_cut, fi_no, fi_s0, fi_s1, fi_s2, fi_s3, fi_s4, fi_v0, fi_v1, fi_v2, fi_v3, fi_v4, fi_v5, fi_n0, fi_n1, fi_n2, fi_mm, fi_stat, fi_alds, fi_tsw, List.getElem?_cons_zero, List.getElem?_cons_succ, List.set_cons_zero, List.set_cons_succ, List.length_cons, List.length_nil, Option.toList_some, Option.toList_none, List.cons_append, List.nil_append, Value.category, true_and, k_0, k_1, k_2, k_3, k_4, false_implies, true_implies, reduceCtorEq, hM.1]
              refine ⟨?_, fun w => absurd trivial w⟩
              refine ⟨rfl, σ4, _, _, none, rfl, h05, f9, ?_⟩
              by_cases q6 : tK b L (tE b L k) = 3
              · rw [if_pos q6]; rfl
              · rw [if_neg q6]
                obtain ⟨n', rfl⟩ : ∃ n', n = n' + 1 := ⟨n - 1, by omega⟩
                simp only [pDays, eScn]
                rw [if_neg q5]
                simp only [fiM, dyT, pSem, eSem]
                rw [if_neg q6]
          · rw [if_neg (show ¬ reP Z.1 N Z.2.2.1.2.2 (tV b L k) e = 0 from q4)]
            exact l_rd97 (q := true) hM f4 rfl h02
        · rw [if_neg q3]
          exact l_rd70 (q := true) hM f2 rfl h01
    · rw [if_neg q1] at hy f2 he1 ⊢
      refine ⟨fun w => (by cases he1.mp w), fun _ => ?_⟩
      exact l_rd70 (q := false) hM f2 rfl h01
theorem MS.dg (h : MS σ b L Z k none) : MS (fs_u σ 56 21 1) b L (Z.1, Z.2.1, Z.2.2.1, Z.2.2.2.1, true) k none := by
  obtain ⟨h1, h2, h3, h4, h5⟩ := h
  obtain ⟨t1, t2, t3⟩ := h1
  have e : ∀ c, c ≠ 21 → fs_u σ 56 21 1 56 c = σ 56 c := fun c hc => by simp only [fs_u]; rw [if_neg (fun z => hc z.2)]
  obtain ⟨a1, a2, a3, a4, a5, a6⟩ := h4 rfl
  exact ⟨⟨by rw [e 10 (by decide)]; exact t1, t2, by rw [fs_u_ne (by decide)]; exact t3⟩, by rw [fs_u_ne (by decide)]; exact h2, h3, fun w => ⟨a1, a2.fa (fun c _ _ => e c (by omega)), by rw [fs_u_ne (by decide)]; exact a3, by rw [e 20 (by decide)]; exact a4, u_eq .., by rw [e 16 (by decide)]; exact a6⟩, fun e' w => by cases w⟩
theorem c_readDayM (hM : shM S 56) (h : MS σ b L Z k none) : fs_Ct g m_X9_readDay [.ref 56] ((S, fr), σ, τ) (rdM S fr τ σ b L (pSem b L (sDay b L k Z))) := by
  refine fs_enterC (by decide) (by simp [fs_ok]) (Nat.le_of_ble_eq_true rfl) (fun d => S_X9_readDay_0 ?_)
  show T_X9_readDay_0 g d _ [.ref 56, .null, .null, .null] [] _
  simp only [T_X9_readDay_0, fi_const, fi_iload, fi_aload, fi_istore, fi_astore, fi_iinc, fi_bin, fi_div, fi_un, fi_dup, fi_dup2, fi_pop, fi_if, fi_cmp, fi_getf, fi_putf, fi_putr, fi_ald, fi_ast, fi_alen, fi_iret, fi_zret, fi_vret, fi_cut, fi_no, fi_s0, fi_s1, fi_s2, fi_s3, fi_s4, fi_v0, fi_v1, fi_v2, fi_v3, fi_v4, fi_v5, fi_n0, fi_n1, fi_n2, fi_mm, fi_stat, fi_alds, fi_tsw, List.getElem?_cons_zero, List.getElem?_cons_succ, List.set_cons_zero, List.set_cons_succ, List.length_cons, List.length_nil, Option.toList_some, Option.toList_none, List.cons_append, List.nil_append, Value.category, true_and, k_0, k_1, k_2, k_3, k_4, false_implies, true_implies, reduceCtorEq]
  simp only [fi_const, fi_iload, fi_aload, fi_istore, fi_astore, fi_iinc, fi_bin, fi_div, fi_un, fi_dup, fi_dup2, fi_pop, fi_if, fi_cmp, fi_getf, fi_putf, fi_putr, fi_ald, fi_ast, fi_alen, fi_iret, fi_zret, fi_vret, fi_cut, fi_no, fi_s0, fi_s1, fi_s2, fi_s3, fi_s4, fi_v0, fi_v1, fi_v2, fi_v3, fi_v4, fi_v5, fi_n0, fi_n1, fi_n2, fi_mm, fi_stat, fi_alds, fi_tsw, List.getElem?_cons_zero, List.getElem?_cons_succ, List.set_cons_zero, List.set_cons_succ, List.length_cons, List.length_nil, Option.toList_some, Option.toList_none, List.cons_append, List.nil_append, Value.category, true_and, k_0, k_1, k_2, k_3, k_4, false_implies, true_implies, reduceCtorEq, hM.1]
  refine ⟨Or.inr trivial, ?_⟩
  refine ⟨by decide, ⟨_, rfl⟩, (c_goOn hM h.dg).mono ?_⟩
  rintro r M' ⟨rfl, σ1, rfl, f1, f2⟩
  simp only [fi_const, fi_iload, fi_aload, fi_istore, fi_astore, fi_iinc, fi_bin, fi_div, fi_un, fi_dup, fi_dup2, fi_pop, fi_if, fi_cmp, fi_getf, fi_putf, fi_putr, fi_ald, fi_ast, fi_alen, fi_iret, fi_zret, fi_vret, fi_cut, fi_no, fi_s0, fi_s1, fi_s2, fi_s3, fi_s4, fi_v0, fi_v1, fi_v2, fi_v3, fi_v4, fi_v5, fi_n0, fi_n1, fi_n2, fi_mm, fi_stat, fi_alds, fi_tsw, List.getElem?_cons_zero, List.getElem?_cons_succ, List.set_cons_zero, List.set_cons_succ, List.length_cons, List.length_nil, Option.toList_some, Option.toList_none, List.cons_append, List.nil_append, Value.category, true_and, k_0, k_1, k_2, k_3, k_4, false_implies, true_implies, reduceCtorEq, hM.1]
  refine ⟨by decide, ⟨_, rfl⟩, (c_integer (lo := 0) (hi := 11) hM (by decide) (by decide) f2).mono ?_⟩
  rintro r M' ⟨⟨y, rfl, hy⟩, σ2, rfl, f3, f4⟩
  replace hy : eInt b L 0 11 (tE b L k) = none → y = nI (tV b L (tE b L k)) := hy
  replace f4 : MS σ2 b L (Z.1, Z.2.1, Z.2.2.1, Z.2.2.2.1, true) (tE b L (tE b L k)) (eInt b L 0 11 (tE b L k)) := f4
  have hlo : loM σ σ2 := by
    intro a c hac
    have e1 : fs_u σ 56 21 1 a c = σ a c := by simp only [fs_u]; rw [if_neg (by omega)]
    rw [← e1, ← (tfM.tk f1).lo a c hac, ← f3.lo a c hac]
  simp only [fi_const, fi_iload, fi_aload, fi_istore, fi_astore, fi_iinc, fi_bin, fi_div, fi_un, fi_dup, fi_dup2, fi_pop, fi_if, fi_cmp, fi_getf, fi_putf, fi_putr, fi_ald, fi_ast, fi_alen, fi_iret, fi_zret, fi_vret, fi_cut, fi_no, fi_s0, fi_s1, fi_s2, fi_s3, fi_s4, fi_v0, fi_v1, fi_v2, fi_v3, fi_v4, fi_v5, fi_n0, fi_n1, fi_n2, fi_mm, fi_stat, fi_alds, fi_tsw, List.getElem?_cons_zero, List.getElem?_cons_succ, List.set_cons_zero, List.set_cons_succ, List.length_cons, List.length_nil, Option.toList_some, Option.toList_none, List.cons_append, List.nil_append, Value.category, true_and, k_0, k_1, k_2, k_3, k_4, false_implies, true_implies, reduceCtorEq]
  unfold sDay
  cases w : eInt b L 0 11 (tE b L k) with
  | some e =>
    rw [w] at f4
    exact l_rd19E hM f4 hlo
  | none =>
    rw [w] at f4
    have ey := hy w
    subst ey
    have hv := (eInt_n w).2.2
    have hc := f4.cn.2.2.2.2.2
    have hu : unS Z.2.1 Z.2.2.1.2.2 ≤ Z.2.2.1.2.2 := ct_le _ _
    simp only at hc
    exact l_rd19 (Z := (Z.1, Z.2.1, Z.2.2.1, Z.2.2.2.1, true)) hM σ (by omega) 15 (tE b L (tE b L k)) Z.2.1 σ2 .null (by show unS Z.2.1 Z.2.2.1.2.2 < 15; omega) f4 hlo
end PR8
