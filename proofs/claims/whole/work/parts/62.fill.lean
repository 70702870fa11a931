/-! ===== fill: parts of it ===== -/
def loD (re : Nat → Int32) : Nat → Nat → Int32
  | 0, _ => -1
  | n + 1, e => if re e = 0 then nI e else loD re n (e + 1)
section PD6
variable {g : fs_G} {d : Nat} {S : List fs_Sh} {fr : Bool} {σ : Nat → Nat → Int32} {τ : Nat → Nat → Int64} {V : Vt} {nL nA nS kp nb : Nat}
theorem l_copies {a b : Nat} (hab : a ≠ b) (ha : S[a]? = some (.inl (.int, 18))) (hb : S[b]? = some (.inl (.int, 18))) : ∀ n k σ, k + n = 18 → fs_R g m_X9_copies d (0, 0) 2 [.ref a, .ref b, .int (nI k)] [] ((S, fr), σ, τ) (fun r M' => r = none ∧ ∃ σ', M' = ((S, fr), σ', τ) ∧ (∀ c, c ≠ b → σ' c = σ c) ∧ ∀ j, σ' b j = if k ≤ j ∧ j < 18 then σ a j else σ b j)
  | 0, k, σ, hk => by
    refine S_X9_copies_2 ?_
    simp only [T_X9_copies_2, fi_const, fi_iload, fi_aload, fi_istore, fi_astore, fi_iinc, fi_bin, fi_div, fi_un, fi_dup, fi_dup2, fi_pop, fi_if, fi_cmp, fi_getf, fi_putf, fi_putr, fi_ald, fi_ast, fi_alen, fi_iret, fi_zret, fi_vret, fi_cut, fi_no, fi_s0, fi_s1, fi_s2, fi_s3, fi_s4, fi_v0, fi_v1, fi_v2, fi_v3, fi_v4, fi_v5, fi_n0, fi_n1, fi_n2, fi_mm, fi_stat, fi_alds, fi_tsw, List.getElem?_cons_zero, List.getElem?_cons_succ, List.set_cons_zero, List.set_cons_succ, List.length_cons, List.length_nil, Option.toList_some, Option.toList_none, List.cons_append, List.nil_append, Value.category, true_and, k_0, k_1, k_2, k_3, k_4, false_implies, true_implies, reduceCtorEq, ha, fi_alen]
    refine ⟨Or.inl trivial, pk_le 18 k (fun _ => ?_) (fun z => by omega)⟩
    exact ⟨σ, rfl, fun _ _ => rfl, fun j => by rw [if_neg (by omega)]⟩
  | n + 1, k, σ, hk => by
    have hi : vp_in (nI k) 18 := vp_in_nI (by omega) (by decide)
    refine S_X9_copies_2 ?_
    simp only [T_X9_copies_2, fi_const, fi_iload, fi_aload, fi_istore, fi_astore, fi_iinc, fi_bin, fi_div, fi_un, fi_dup, fi_dup2, fi_pop, fi_if, fi_cmp, fi_getf, fi_putf, fi_putr, fi_ald, fi_ast, fi_alen, fi_iret, fi_zret, fi_vret, fi_cut, fi_no, fi_s0, fi_s1, fi_s2, fi_s3, fi_s4, fi_v0, fi_v1, fi_v2, fi_v3, fi_v4, fi_v5, fi_n0, fi_n1, fi_n2, fi_mm, fi_stat, fi_alds, fi_tsw, List.getElem?_cons_zero, List.getElem?_cons_succ, List.set_cons_zero, List.set_cons_succ, List.length_cons, List.length_nil, Option.toList_some, Option.toList_none, List.cons_append, List.nil_append, Value.category, true_and, k_0, k_1, k_2, k_3, k_4, false_implies, true_implies, reduceCtorEq, ha, hb, fi_alen, nI_clamp (show k < 2 ^ 31 by omega), hi, nI_1]
    refine ⟨Or.inl trivial, pk_le 18 k (fun z => by omega) (fun _ => ?_)⟩
    refine fs_R_mono (l_copies hab ha hb n (k + 1) (fs_u σ b k (σ a k)) (by omega)) ?_
    rintro r M' ⟨rfl, σ', rfl, hs, s2⟩
    refine ⟨rfl, σ', rfl, fun c hc => by rw [hs c hc, fs_u_ne hc], fun j => ?_⟩
    rw [s2 j, fs_u_ne hab]
    by_cases q : j = k
    · rw [if_neg (show ¬ (k + 1 ≤ j ∧ j < 18) by omega), if_pos (show k ≤ j ∧ j < 18 by omega), q, u_eq]
    · by_cases q2 : k + 1 ≤ j ∧ j < 18
      · rw [if_pos q2, if_pos (by omega)]
      · rw [if_neg q2, if_neg (by omega)]
        simp only [fs_u]
        rw [if_neg (fun z => q z.2)]
theorem c_copies {a b : Nat} (hab : a ≠ b) (ha : S[a]? = some (.inl (.int, 18))) (hb : S[b]? = some (.inl (.int, 18))) : fs_Ct g m_X9_copies [.ref a, .ref b] ((S, fr), σ, τ) (fun r M' => r = none ∧ ∃ σ', M' = ((S, fr), σ', τ) ∧ (∀ c, c ≠ b → σ' c = σ c) ∧ ∀ j, σ' b j = if j < 18 then σ a j else σ b j) := by
  refine fs_enterC (by decide) (by simp [fs_ok]) (Nat.le_of_ble_eq_true rfl) (fun d => S_X9_copies_0 ?_)
  show T_X9_copies_0 g d _ [.ref a, .ref b, .null] [] _
  simp only [T_X9_copies_0, fi_const, fi_iload, fi_aload, fi_istore, fi_astore, fi_iinc, fi_bin, fi_div, fi_un, fi_dup, fi_dup2, fi_pop, fi_if, fi_cmp, fi_getf, fi_putf, fi_putr, fi_ald, fi_ast, fi_alen, fi_iret, fi_zret, fi_vret, fi_cut, fi_no, fi_s0, fi_s1, fi_s2, fi_s3, fi_s4, fi_v0, fi_v1, fi_v2, fi_v3, fi_v4, fi_v5, fi_n0, fi_n1, fi_n2, fi_mm, fi_stat, fi_alds, fi_tsw, List.getElem?_cons_zero, List.getElem?_cons_succ, List.set_cons_zero, List.set_cons_succ, List.length_cons, List.length_nil, Option.toList_some, Option.toList_none, List.cons_append, List.nil_append, Value.category, true_and, k_0, k_1, k_2, k_3, k_4, false_implies, true_implies, reduceCtorEq]
  refine fs_R_mono (l_copies hab ha hb 18 0 σ rfl) ?_
  rintro r M' ⟨rfl, σ', rfl, hs, s2⟩
  exact ⟨rfl, σ', rfl, hs, fun j => by rw [s2 j]; simp⟩
/-- a scene moved in the trial table, while the table itself may be old -/
theorem v_move0 (hX : shX S) (hT : okT V nL nA nS) (hN : okN V nS (V 4)) (h : IC0 σ V nL nA nS kp nb) {k e : Nat} (hk : k < nS) (he : e < 12) : fs_Ct g m_X0_moveScene [.ref 20, .int (nI k), .int (nI e)] ((S, fr), σ, τ) (fun r M' => r = some (.int (reV V nS k e)) ∧ ∃ σ', M' = ((S, fr), σ', τ) ∧ same σ σ' (inT 20)) := by
  have hP := hX.2.2.1
  have hD := hX.2.2.2.2.1
  have hn := hT.2.2.2.2.2.1
  obtain ⟨c1, c2, c3, ⟨D, hD1, hD2, eD⟩, c5, hcons, hrest⟩ := hN
  have h4 := h.2.2.2.1
  have hd : ∀ j, j < nS → σ 12 j = v_dy V j := fun j hj => h.2.2.2.2.1 j (by omega)
  have hd2 : ∀ x j, j < nS → dyA (σ 12) k x j = dyA (v_dy V) k x j := fun x j hj => by simp only [dyA, hd j hj]
  have h01 : b01 (v_ni V) nS := hT.2.2.2.2.2.2.2.1
  have hco : cons (σ 12) (σ 8) (σ 10) nS := by
    intro i j f hi hj hf e1 e2
    rw [hd i hi] at e1
    rw [hd j hj] at e2
    rw [(h4 i hi).1, (h4 j hj).1, (h4 i hi).2.2.1, (h4 j hj).2.2.1]
    exact hcons i j f hi hj hf e1 e2
  have e0 : reF (σ 8) (σ 10) (σ 9) (σ 11) (σ 13 0) (dyA (σ 12) k (-1)) nS k e = reV V nS k e := by
    unfold reV
    rw [← re_rm hn hk he h01 hcons hrest, h.2.2.2.2.2.1 0 (by decide)]
    exact reF_congr (hd2 _) (fun j hj => ⟨(h4 j hj).1, (h4 j hj).2.2.1, (h4 j hj).2.1, (h4 j hj).2.2.2⟩) hk he
  refine (c_move hD hP (by decide) hn h.1.2.2 (fun j hj => by rw [show 2 + 8 = 10 from rfl, (h4 j hj).2.2.1]; exact h01 j hj) hco hk he).mono ?_
  rintro r M' ⟨rfl, σ', rfl, hs, -⟩
  exact ⟨by rw [← e0], σ', rfl, hs⟩
theorem l_lowest (hX : shX S) (hT : okT V nL nA nS) (hN : okN V nS (V 4)) {k : Nat} (hk : k < nS) : ∀ n e σ, e + n = 12 → IC0 σ V nL nA nS kp nb → fs_R g m_X8_lowestDayFor d (0, 0) 2 [.ref 0, .int (nI k), .int (nI e)] [] ((S, fr), σ, τ) (fun r M' => r = some (.int (loD (reV V nS k) n e)) ∧ ∃ σ', M' = ((S, fr), σ', τ) ∧ same σ σ' (inT 20))
  | 0, e, σ, he, h => by
    refine S_X8_lowestDayFor_2 ?_
    simp only [T_X8_lowestDayFor_2, fi_const, fi_iload, fi_aload, fi_istore, fi_astore, fi_iinc, fi_bin, fi_div, fi_un, fi_dup, fi_dup2, fi_pop, fi_if, fi_cmp, fi_getf, fi_putf, fi_putr, fi_ald, fi_ast, fi_alen, fi_iret, fi_zret, fi_vret, fi_cut, fi_no, fi_s0, fi_s1, fi_s2, fi_s3, fi_s4, fi_v0, fi_v1, fi_v2, fi_v3, fi_v4, fi_v5, fi_n0, fi_n1, fi_n2, fi_mm, fi_stat, fi_alds, fi_tsw, List.getElem?_cons_zero, List.getElem?_cons_succ, List.set_cons_zero, List.set_cons_succ, List.length_cons, List.length_nil, Option.toList_some, Option.toList_none, List.cons_append, List.nil_append, Value.category, true_and, k_0, k_1, k_2, k_3, k_4, false_implies, true_implies, reduceCtorEq]
    refine pk_le 12 e (fun _ => ?_) (fun z => by omega)
    exact ⟨rfl, σ, rfl, same.rf⟩
  | n + 1, e, σ, he, h => by
    have hD := hX.2.2.2.2.1
    refine S_X8_lowestDayFor_2 ?_
    simp only [T_X8_lowestDayFor_2, fi_const, fi_iload, fi_aload, fi_istore, fi_astore, fi_iinc, fi_bin, fi_div, fi_un, fi_dup, fi_dup2, fi_pop, fi_if, fi_cmp, fi_getf, fi_putf, fi_putr, fi_ald, fi_ast, fi_alen, fi_iret, fi_zret, fi_vret, fi_cut, fi_no, fi_s0, fi_s1, fi_s2, fi_s3, fi_s4, fi_v0, fi_v1, fi_v2, fi_v3, fi_v4, fi_v5, fi_n0, fi_n1, fi_n2, fi_mm, fi_stat, fi_alds, fi_tsw, List.getElem?_cons_zero, List.getElem?_cons_succ, List.set_cons_zero, List.set_cons_succ, List.length_cons, List.length_nil, Option.toList_some, Option.toList_none, List.cons_append, List.nil_append, Value.category, true_and, k_0, k_1, k_2, k_3, k_4, false_implies, true_implies, reduceCtorEq, hX.1]
    refine pk_le 12 e (fun z => by omega) (fun _ => ⟨by decide, ⟨_, hD.1⟩, (v_move0 hX hT hN h hk (show e < 12 by omega)).mono ?_⟩)
    rintro r M' ⟨rfl, σ', rfl, hs⟩
    simp only [fi_const, fi_iload, fi_aload, fi_istore, fi_astore, fi_iinc, fi_bin, fi_div, fi_un, fi_dup, fi_dup2, fi_pop, fi_if, fi_cmp, fi_getf, fi_putf, fi_putr, fi_ald, fi_ast, fi_alen, fi_iret, fi_zret, fi_vret, fi_cut, fi_no, fi_s0, fi_s1, fi_s2, fi_s3, fi_s4, fi_v0, fi_v1, fi_v2, fi_v3, fi_v4, fi_v5, fi_n0, fi_n1, fi_n2, fi_mm, fi_stat, fi_alds, fi_tsw, List.getElem?_cons_zero, List.getElem?_cons_succ, List.set_cons_zero, List.set_cons_succ, List.length_cons, List.length_nil, Option.toList_some, Option.toList_none, List.cons_append, List.nil_append, Value.category, true_and, k_0, k_1, k_2, k_3, k_4, false_implies, true_implies, reduceCtorEq, nI_1]
    refine ⟨fun q => ⟨by rw [loD, if_pos q], σ', rfl, hs⟩, fun q => ?_⟩
    refine fs_R_mono (l_lowest hX hT hN hk n (e + 1) σ' (by omega) (h.keep (fun a h1 h2 h3 => hs a (by unfold inT; omega)))) ?_
    rintro r M' ⟨rfl, σ2, rfl, hs2⟩
    exact ⟨by rw [loD, if_neg q], σ2, rfl, fun a ha => (hs2 a ha).trans (hs a ha)⟩
theorem c_lowest (hX : shX S) (hT : okT V nL nA nS) (hN : okN V nS (V 4)) (h : IC0 σ V nL nA nS kp nb) {k : Nat} (hk : k < nS) : fs_Ct g m_X8_lowestDayFor [.ref 0, .int (nI k)] ((S, fr), σ, τ) (fun r M' => r = some (.int (loD (reV V nS k) 12 0)) ∧ ∃ σ', M' = ((S, fr), σ', τ) ∧ same σ σ' (inT 20)) := by
  refine fs_enterC (by decide) (by simp [fs_ok]) (Nat.le_of_ble_eq_true rfl) (fun d => S_X8_lowestDayFor_0 ?_)
  show T_X8_lowestDayFor_0 g d _ [.ref 0, .int (nI k), .null] [] _
  simp only [T_X8_lowestDayFor_0, fi_const, fi_iload, fi_aload, fi_istore, fi_astore, fi_iinc, fi_bin, fi_div, fi_un, fi_dup, fi_dup2, fi_pop, fi_if, fi_cmp, fi_getf, fi_putf, fi_putr, fi_ald, fi_ast, fi_alen, fi_iret, fi_zret, fi_vret, fi_cut, fi_no, fi_s0, fi_s1, fi_s2, fi_s3, fi_s4, fi_v0, fi_v1, fi_v2, fi_v3, fi_v4, fi_v5, fi_n0, fi_n1, fi_n2, fi_mm, fi_stat, fi_alds, fi_tsw, List.getElem?_cons_zero, List.getElem?_cons_succ, List.set_cons_zero, List.set_cons_succ, List.length_cons, List.length_nil, Option.toList_some, Option.toList_none, List.cons_append, List.nil_append, Value.category, true_and, k_0, k_1, k_2, k_3, k_4, false_implies, true_implies, reduceCtorEq]
  exact l_lowest hX hT hN hk 12 0 σ rfl h
end PD6
