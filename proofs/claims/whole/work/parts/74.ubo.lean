/-! ===== bestCost, bestOrder of the reference; useBestOrder ===== -/
theorem sfd_gd {gd : Nat → Bool} {co : Nat → Nat} : ∀ k a s m, (∀ x, s = some x → gd x = true) → sfd gd co k a s = some m → gd m = true
  | 0, a, s, m, hs, h => hs m h
  | k + 1, a, s, m, hs, h => by
    simp only [sfd] at h
    refine sfd_gd k (a + 1) (stp gd co s a) m (fun x hx => ?_) h
    unfold stp at hx
    by_cases q : gd a = true
    · rw [if_pos q] at hx
      cases s with
      | none => simp only at hx; cases hx; exact q
      | some y =>
        simp only at hx
        by_cases w : co a < co y
        · rw [if_pos w] at hx; cases hx; exact q
        · rw [if_neg w] at hx; exact hs x hx
    · rw [if_neg q] at hx; exact hs x hx
section PS9
variable {g : fs_G} {d : Nat} {S : List fs_Sh} {fr : Bool} {σ σ0 : Nat → Nat → Int32} {τ : Nat → Nat → Int64} {V : Vt} {nL nA nS kp nb : Nat}
theorem bs_gd {m : Nat} (h : bsV V nA nS = some m) : gdV V nS m = true := sfd_gd _ _ _ _ (fun x hx => by cases hx) h
theorem seS.IM (h : IM σ V kp nb) (hs : seS σ σ0) (h60 : σ0 60 = V 4) : IM σ0 V kp nb ∧ (∀ a, a < 56 ∨ 69 ≤ a → σ0 a = σ a) ∧ σ0 56 0 = σ 56 0 := by
  obtain ⟨h1, h2, h3, h4, h5, h6, h7⟩ := h
  refine ⟨⟨by rw [hs.cell (by decide) (by decide)]; exact h1, h60, by rw [hs.cell (by decide) (by decide)]; exact h3, by rw [hs.cell (by decide) (by decide)]; exact h4, by rw [hs 56 2 (by decide) (by decide)]; exact h5, by rw [hs 56 9 (by decide) (by decide)]; exact h6, by rw [hs 56 18 (by decide) (by decide)]; exact h7⟩, fun a ha => hs.cell (by omega) (by omega), hs 56 0 (by decide) (by decide)⟩
theorem b_bestCost (hX : shX S) (hT : okT V nL nA nS) (hN : okN V nS (V 4)) : askM g S fr τ V kp nb m_X9_bestCost [.ref 56] (bcV V nA nS) 0 := by
  intro σ h
  have hM := hX.m
  have h1 := h.th 0
  refine fs_enterC (by decide) (by simp [fs_ok]) (Nat.le_of_ble_eq_true rfl) (fun d => S_X9_bestCost_0 ?_)
  show T_X9_bestCost_0 g d _ [.ref 56] [] _
  simp only [T_X9_bestCost_0, fi_const, fi_iload, fi_aload, fi_istore, fi_astore, fi_iinc, fi_bin, fi_div, fi_un, fi_dup, fi_dup2, fi_pop, fi_if, fi_cmp, fi_getf, fi_putf, fi_putr, fi_ald, fi_ast, fi_alen, fi_iret, fi_zret, fi_vret, fi_cut, fi_no, fi_s0, fi_s1, fi_s2, fi_s3, fi_s4, fi_v0, fi_v1, fi_v2, fi_v3, fi_v4, fi_v5, fi_n0, fi_n1, fi_n2, fi_mm, fi_stat, fi_alds, fi_tsw, List.getElem?_cons_zero, List.getElem?_cons_succ, List.set_cons_zero, List.set_cons_succ, List.length_cons, List.length_nil, Option.toList_some, Option.toList_none, List.cons_append, List.nil_append, Value.category, true_and, k_0, k_1, k_2, k_3, k_4, false_implies, true_implies, reduceCtorEq]
  simp only [fi_const, fi_iload, fi_aload, fi_istore, fi_astore, fi_iinc, fi_bin, fi_div, fi_un, fi_dup, fi_dup2, fi_pop, fi_if, fi_cmp, fi_getf, fi_putf, fi_putr, fi_ald, fi_ast, fi_alen, fi_iret, fi_zret, fi_vret, fi_cut, fi_no, fi_s0, fi_s1, fi_s2, fi_s3, fi_s4, fi_v0, fi_v1, fi_v2, fi_v3, fi_v4, fi_v5, fi_n0, fi_n1, fi_n2, fi_mm, fi_stat, fi_alds, fi_tsw, List.getElem?_cons_zero, List.getElem?_cons_succ, List.set_cons_zero, List.set_cons_succ, List.length_cons, List.length_nil, Option.toList_some, Option.toList_none, List.cons_append, List.nil_append, Value.category, true_and, k_0, k_1, k_2, k_3, k_4, false_implies, true_implies, reduceCtorEq, hM.1]
  refine ⟨by decide, ⟨_, rfl⟩, (c_searches hX hT hN h1).mono ?_⟩
  rintro r M' ⟨rfl, σ', rfl, f1, f2, -⟩
  obtain ⟨a1, a2, a3⟩ := seS.IM h1 f1 f2
  simp only [fi_const, fi_iload, fi_aload, fi_istore, fi_astore, fi_iinc, fi_bin, fi_div, fi_un, fi_dup, fi_dup2, fi_pop, fi_if, fi_cmp, fi_getf, fi_putf, fi_putr, fi_ald, fi_ast, fi_alen, fi_iret, fi_zret, fi_vret, fi_cut, fi_no, fi_s0, fi_s1, fi_s2, fi_s3, fi_s4, fi_v0, fi_v1, fi_v2, fi_v3, fi_v4, fi_v5, fi_n0, fi_n1, fi_n2, fi_mm, fi_stat, fi_alds, fi_tsw, List.getElem?_cons_zero, List.getElem?_cons_succ, List.set_cons_zero, List.set_cons_succ, List.length_cons, List.length_nil, Option.toList_some, Option.toList_none, List.cons_append, List.nil_append, Value.category, true_and, k_0, k_1, k_2, k_3, k_4, false_implies, true_implies, reduceCtorEq]
  exact ⟨σ', rfl, a1, fun a ha => by rw [a2 a ha, th_lo 0 a ha], by rw [a3, u_eq]⟩
theorem bc_cases (hT : okT V nL nA nS) (hN : okN V nS (V 4)) : (7 < nDV V nS ∧ bcV V nA nS = -4) ∨ (nDV V nS ≤ 7 ∧ bsV V nA nS = none ∧ bcV V nA nS = -1) ∨ ∃ m, nDV V nS ≤ 7 ∧ bsV V nA nS = some m ∧ bcV V nA nS = nI (ccV V nA nS m) ∧ ccV V nA nS m ≤ 1679844 := by
  unfold bcV
  by_cases q : 7 < nDV V nS
  · exact Or.inl ⟨q, if_pos q⟩
  · rw [if_neg q]
    cases w : bsV V nA nS with
    | none => exact Or.inr (Or.inl ⟨by omega, rfl, rfl⟩)
    | some m => exact Or.inr (Or.inr ⟨m, by omega, rfl, rfl, cc_le hT hN m⟩)
theorem b_bestOrder (hX : shX S) (hT : okT V nL nA nS) (hN : okN V nS (V 4)) (x : Int32) : askM g S fr τ V kp nb m_X9_bestOrder [.ref 56, .int x] (boV V nA nS x) 0 := by
  intro σ h
  have hM := hX.m
  have h1 := h.th 0
  refine fs_enterC (by decide) (by simp [fs_ok]) (Nat.le_of_ble_eq_true rfl) (fun d => S_X9_bestOrder_0 ?_)
  show T_X9_bestOrder_0 g d _ [.ref 56, .int x, .null] [] _
  simp only [T_X9_bestOrder_0, fi_const, fi_iload, fi_aload, fi_istore, fi_astore, fi_iinc, fi_bin, fi_div, fi_un, fi_dup, fi_dup2, fi_pop, fi_if, fi_cmp, fi_getf, fi_putf, fi_putr, fi_ald, fi_ast, fi_alen, fi_iret, fi_zret, fi_vret, fi_cut, fi_no, fi_s0, fi_s1, fi_s2, fi_s3, fi_s4, fi_v0, fi_v1, fi_v2, fi_v3, fi_v4, fi_v5, fi_n0, fi_n1, fi_n2, fi_mm, fi_stat, fi_alds, fi_tsw, List.getElem?_cons_zero, List.getElem?_cons_succ, List.set_cons_zero, List.set_cons_succ, List.length_cons, List.length_nil, Option.toList_some, Option.toList_none, List.cons_append, List.nil_append, Value.category, true_and, k_0, k_1, k_2, k_3, k_4, false_implies, true_implies, reduceCtorEq]
  simp only [fi_const, fi_iload, fi_aload, fi_istore, fi_astore, fi_iinc, fi_bin, fi_div, fi_un, fi_dup, fi_dup2, fi_pop, fi_if, fi_cmp, fi_getf, fi_putf, fi_putr, fi_ald, fi_ast, fi_alen, fi_iret, fi_zret, fi_vret, fi_cut, fi_no, fi_s0, fi_s1, fi_s2, fi_s3, fi_s4, fi_v0, fi_v1, fi_v2, fi_v3, fi_v4, fi_v5, fi_n0, fi_n1, fi_n2, fi_mm, fi_stat, fi_alds, fi_tsw, List.getElem?_cons_zero, List.getElem?_cons_succ, List.set_cons_zero, List.set_cons_succ, List.length_cons, List.length_nil, Option.toList_some, Option.toList_none, List.cons_append, List.nil_append, Value.category, true_and, k_0, k_1, k_2, k_3, k_4, false_implies, true_implies, reduceCtorEq, hM.1]
  refine ⟨by decide, ⟨_, rfl⟩, (c_searches hX hT hN h1).mono ?_⟩
  rintro r M' ⟨rfl, σ', rfl, f1, f2, f3⟩
  obtain ⟨a1, a2, a3⟩ := seS.IM h1 f1 f2
  have fin : ∃ σ1, ((S, fr), σ', τ) = ((S, fr), σ1, τ) ∧ IM σ1 V kp nb ∧ (∀ a, a < 56 ∨ 69 ≤ a → σ1 a = σ a) ∧ σ1 56 0 = 0 := ⟨σ', rfl, a1, fun a ha => by rw [a2 a ha, th_lo 0 a ha], by rw [a3, u_eq]⟩
  simp only [fi_const, fi_iload, fi_aload, fi_istore, fi_astore, fi_iinc, fi_bin, fi_div, fi_un, fi_dup, fi_dup2, fi_pop, fi_if, fi_cmp, fi_getf, fi_putf, fi_putr, fi_ald, fi_ast, fi_alen, fi_iret, fi_zret, fi_vret, fi_cut, fi_no, fi_s0, fi_s1, fi_s2, fi_s3, fi_s4, fi_v0, fi_v1, fi_v2, fi_v3, fi_v4, fi_v5, fi_n0, fi_n1, fi_n2, fi_mm, fi_stat, fi_alds, fi_tsw, List.getElem?_cons_zero, List.getElem?_cons_succ, List.set_cons_zero, List.set_cons_succ, List.length_cons, List.length_nil, Option.toList_some, Option.toList_none, List.cons_append, List.nil_append, Value.category, true_and, k_0, k_1, k_2, k_3, k_4, false_implies, true_implies, reduceCtorEq, hM.1]
  rcases bc_cases (nA := nA) hT hN with ⟨q, e⟩ | ⟨h7, q, e⟩ | ⟨m, h7, q, e, hm⟩
  · rw [e]
    refine ⟨fun _ => ⟨?_, fin⟩, fun z => absurd rfl z⟩
    unfold boV; rw [if_pos q]
  · rw [e]
    refine ⟨fun z => absurd z (by decide), fun _ => ⟨fun _ => ⟨?_, fin⟩, fun z => absurd rfl z⟩⟩
    unfold boV; rw [if_neg (by omega), q]
  · obtain ⟨i1, i2, i3, i4, i5, i6⟩ := f3 h7
    have eb : boV V nA nS x = if inI x (nDV V nS) then nI (owV V nS (rwN (nDV V nS) m x.toNatClampNeg)) else -1 := by unfold boV; rw [if_neg (by omega), q]
    rw [e, eb, i1]
    have hpos := nI_pos (n := ccV V nA nS m) (by omega)
    refine ⟨fun z => absurd (show nI (ccV V nA nS m) < 0 by rw [z]; decide) hpos, fun _ => ⟨fun z => absurd z (nI_m1 (by omega)), fun _ => ⟨fun q1 => ⟨?_, fin⟩, fun q1 => ⟨fun q2 => ⟨?_, fin⟩, fun q2 => ?_⟩⟩⟩⟩
    · rw [if_neg (fun z => z.1 q1)]
    · rw [if_neg (fun z => z.2 q2)]
    · obtain ⟨i, hi, rfl⟩ := inI_nat ⟨q1, q2⟩ (by omega)
      have hr : rwN (nDV V nS) m i < nDV V nS := rwN_lt (by omega)
      have e68 := i6 m q i hi
      have e66 := i2 _ hr
      simp only [hM.2.2.2.2.2.2.2.2.2.2.1, hM.2.2.2.2.2.2.2.2.2.2.2.2, fi_const, fi_iload, fi_aload, fi_istore, fi_astore, fi_iinc, fi_bin, fi_div, fi_un, fi_dup, fi_dup2, fi_pop, fi_if, fi_cmp, fi_getf, fi_putf, fi_putr, fi_ald, fi_ast, fi_alen, fi_iret, fi_zret, fi_vret, fi_cut, fi_no, fi_s0, fi_s1, fi_s2, fi_s3, fi_s4, fi_v0, fi_v1, fi_v2, fi_v3, fi_v4, fi_v5, fi_n0, fi_n1, fi_n2, fi_mm, fi_stat, fi_alds, fi_tsw, List.getElem?_cons_zero, List.getElem?_cons_succ, List.set_cons_zero, List.set_cons_succ, List.length_cons, List.length_nil, Option.toList_some, Option.toList_none, List.cons_append, List.nil_append, Value.category, true_and, k_0, k_1, k_2, k_3, k_4, false_implies, true_implies, reduceCtorEq, show 56 + 10 = 66 from rfl, show 56 + 12 = 68 from rfl, nI_clamp (show i < 2 ^ 31 by omega), e68, nI_clamp (show rwN (nDV V nS) m i < 2 ^ 31 by omega), e66]
      rw [if_pos ⟨q1, q2⟩]
      exact ⟨vp_in_nI (by omega) (by decide), vp_in_nI (by omega) (by decide), rfl, fin⟩
/-- the row after useBestOrder -/
theorem okN_st (hT : okT V nL nA nS) (hN : okN V nS (V 4)) (h7 : nDV V nS ≤ 7) {m : Nat} (hg : gdV V nS m = true) : okN V nS (stR V nS (rwN (nDV V nS) m)) := by
  have hn := hT.2.2.2.2.2.1
  have h01 : b01 (v_ni V) nS := hT.2.2.2.2.2.2.2.1
  have hpm : pmB (rwN (nDV V nS) m) (nDV V nS) = true := by unfold gdV at hg; exact (Bool.and_eq_true _ _ ▸ hg).1
  have hrs : rsM (pnF (fr_ (stR V nS (rwN (nDV V nS) m)) 4) (v_ni V) nS) (fun e => caF (fr_ (stR V nS (rwN (nDV V nS) m)) 4) (v_ca V) e nS) 11 0 = true := by unfold gdV at hg; exact (Bool.and_eq_true _ _ ▸ hg).2
  have hr : ∀ i, i < nDV V nS → rwN (nDV V nS) m i < nDV V nS := fun i hi => rwN_lt (by omega)
  obtain ⟨c1, c2, c3, c4, c5, c6, c7⟩ := id hN
  have c : ∀ j, j < 4 → stR V nS (rwN (nDV V nS) m) j = V 4 j := fun j hj => by unfold stR; rw [if_neg (by omega)]
  refine ⟨by rw [c 0 (by decide)]; exact c1, by rw [c 1 (by decide)]; exact c2, by rw [c 2 (by decide)]; exact c3, by rw [c 3 (by decide)]; exact c4, fun k hk => ?_, ?_, (rested_iff h01).mp hrs⟩
  · by_cases q : k < nS
    · unfold stR
      rw [if_pos (by omega)]
      rcases sdF_or (V 4 (4 + k)) (fun i => owV V nS (rwN (nDV V nS) m i)) (nDV V nS) with w | ⟨i, h1, h2, -⟩
      · exact Or.inl w
      · exact Or.inr ⟨q, i, by omega, h2⟩
    · unfold stR
      rw [if_neg (by omega)]
      exact c5 k hk
  · intro i j e hi hj he e1 e2
    by_cases q : e < nDV V nS
    · have d1 := ((stR_day hN hn h7 hpm hr hi).1 e q).mp e1
      have d2 := ((stR_day hN hn h7 hpm hr hj).1 e q).mp e2
      exact c6 i j _ hi hj (ow_lt (hr e q)).1 d1 d2
    · exact absurd e1 ((stR_day hN hn h7 hpm hr hi).2 e (by omega) he)
theorem co_st (hT : okT V nL nA nS) (hN : okN V nS (V 4)) (m : Nat) : coV (chV V kp (stR V nS (rwN (nDV V nS) m))) nA nS (v_dy (chV V kp (stR V nS (rwN (nDV V nS) m)))) = nI (ccV V nA nS m) := by
  have c : ∀ j, j < 4 → stR V nS (rwN (nDV V nS) m) j = V 4 j := fun j hj => by unfold stR; rw [if_neg (by omega)]
  obtain ⟨x, hx, e⟩ := coV_le hT hN (fr_ (stR V nS (rwN (nDV V nS) m)) 4)
  have : coV (chV V kp (stR V nS (rwN (nDV V nS) m))) nA nS (v_dy (chV V kp (stR V nS (rwN (nDV V nS) m)))) = coV V nA nS (fr_ (stR V nS (rwN (nDV V nS) m)) 4) := by
    unfold coV
    simp only [v_lo, v_ca, v_dy, chV_2, chV_4, c 1 (by decide), c 2 (by decide), c 3 (by decide)]
  rw [this]
  unfold ccV
  rw [e, nI_clamp (by omega)]
/-- useBestOrder of the reference -/
theorem n_useBest (hX : shX S) (hV : okV V nL nA nS kp nb) {m : Nat} (h7 : nDV V nS ≤ 7) (hm : bsV V nA nS = some m) : chgM g S fr τ V kp nb m_X9_useBestOrder [.ref 56] (nI (ccV V nA nS m)) (chV V kp (stR V nS (rwN (nDV V nS) m))) (k0 kp + 1) := by
  intro σ h
  obtain ⟨hT, hN, h9, hkp, -⟩ := id hV
  have hM := hX.m
  have hn := hT.2.2.2.2.2.1
  have h1 := h.th 0
  have eb : bcV V nA nS = nI (ccV V nA nS m) := by unfold bcV; rw [if_neg (by omega), hm]
  have hcc := cc_le (nA := nA) hT hN m
  refine fs_enterC (by decide) (by simp [fs_ok]) (Nat.le_of_ble_eq_true rfl) (fun d => S_X9_useBestOrder_0 ?_)
  show T_X9_useBestOrder_0 g d _ [.ref 56, .null] [] _
  simp only [T_X9_useBestOrder_0, fi_const, fi_iload, fi_aload, fi_istore, fi_astore, fi_iinc, fi_bin, fi_div, fi_un, fi_dup, fi_dup2, fi_pop, fi_if, fi_cmp, fi_getf, fi_putf, fi_putr, fi_ald, fi_ast, fi_alen, fi_iret, fi_zret, fi_vret, fi_cut, fi_no, fi_s0, fi_s1, fi_s2, fi_s3, fi_s4, fi_v0, fi_v1, fi_v2, fi_v3, fi_v4, fi_v5, fi_n0, fi_n1, fi_n2, fi_mm, fi_stat, fi_alds, fi_tsw, List.getElem?_cons_zero, List.getElem?_cons_succ, List.set_cons_zero, List.set_cons_succ, List.length_cons, List.length_nil, Option.toList_some, Option.toList_none, List.cons_append, List.nil_append, Value.category, true_and, k_0, k_1, k_2, k_3, k_4, false_implies, true_implies, reduceCtorEq]
  simp only [fi_const, fi_iload, fi_aload, fi_istore, fi_astore, fi_iinc, fi_bin, fi_div, fi_un, fi_dup, fi_dup2, fi_pop, fi_if, fi_cmp, fi_getf, fi_putf, fi_putr, fi_ald, fi_ast, fi_alen, fi_iret, fi_zret, fi_vret, fi_cut, fi_no, fi_s0, fi_s1, fi_s2, fi_s3, fi_s4, fi_v0, fi_v1, fi_v2, fi_v3, fi_v4, fi_v5, fi_n0, fi_n1, fi_n2, fi_mm, fi_stat, fi_alds, fi_tsw, List.getElem?_cons_zero, List.getElem?_cons_succ, List.set_cons_zero, List.set_cons_succ, List.length_cons, List.length_nil, Option.toList_some, Option.toList_none, List.cons_append, List.nil_append, Value.category, true_and, k_0, k_1, k_2, k_3, k_4, false_implies, true_implies, reduceCtorEq, hM.1]
  refine ⟨by decide, ⟨_, rfl⟩, (c_searches hX hT hN h1).mono ?_⟩
  rintro r M' ⟨rfl, σ1, rfl, f1, f2, f3⟩
  obtain ⟨a1, a2, a3⟩ := seS.IM h1 f1 f2
  obtain ⟨i1, i2, i3, i4, i5, i6⟩ := f3 h7
  rw [eb]
  simp only [fi_const, fi_iload, fi_aload, fi_istore, fi_astore, fi_iinc, fi_bin, fi_div, fi_un, fi_dup, fi_dup2, fi_pop, fi_if, fi_cmp, fi_getf, fi_putf, fi_putr, fi_ald, fi_ast, fi_alen, fi_iret, fi_zret, fi_vret, fi_cut, fi_no, fi_s0, fi_s1, fi_s2, fi_s3, fi_s4, fi_v0, fi_v1, fi_v2, fi_v3, fi_v4, fi_v5, fi_n0, fi_n1, fi_n2, fi_mm, fi_stat, fi_alds, fi_tsw, List.getElem?_cons_zero, List.getElem?_cons_succ, List.set_cons_zero, List.set_cons_succ, List.length_cons, List.length_nil, Option.toList_some, Option.toList_none, List.cons_append, List.nil_append, Value.category, true_and, k_0, k_1, k_2, k_3, k_4, false_implies, true_implies, reduceCtorEq, hM.1]
  refine ⟨fun _ => ⟨by decide, ⟨_, rfl⟩, (c_keepsM hM hkp (a1.2.2.2.2.2.1.trans h9)).mono ?_⟩, fun z => absurd (nI_pos' (by omega)) z⟩
  rintro r M' ⟨rfl, σ2, rfl, hs2, s1, s2⟩
  simp only [fi_const, fi_iload, fi_aload, fi_istore, fi_astore, fi_iinc, fi_bin, fi_div, fi_un, fi_dup, fi_dup2, fi_pop, fi_if, fi_cmp, fi_getf, fi_putf, fi_putr, fi_ald, fi_ast, fi_alen, fi_iret, fi_zret, fi_vret, fi_cut, fi_no, fi_s0, fi_s1, fi_s2, fi_s3, fi_s4, fi_v0, fi_v1, fi_v2, fi_v3, fi_v4, fi_v5, fi_n0, fi_n1, fi_n2, fi_mm, fi_stat, fi_alds, fi_tsw, List.getElem?_cons_zero, List.getElem?_cons_succ, List.set_cons_zero, List.set_cons_succ, List.length_cons, List.length_nil, Option.toList_some, Option.toList_none, List.cons_append, List.nil_append, Value.category, true_and, k_0, k_1, k_2, k_3, k_4, false_implies, true_implies, reduceCtorEq, hM.1]
  refine ⟨by decide, (c_copies (a := 60) (b := 62) (by decide) hM.2.2.2.2.1 hM.2.2.2.2.2.2.1).mono ?_⟩
  rintro r M' ⟨rfl, σ3, rfl, t1, t2⟩
  simp only [fi_const, fi_iload, fi_aload, fi_istore, fi_astore, fi_iinc, fi_bin, fi_div, fi_un, fi_dup, fi_dup2, fi_pop, fi_if, fi_cmp, fi_getf, fi_putf, fi_putr, fi_ald, fi_ast, fi_alen, fi_iret, fi_zret, fi_vret, fi_cut, fi_no, fi_s0, fi_s1, fi_s2, fi_s3, fi_s4, fi_v0, fi_v1, fi_v2, fi_v3, fi_v4, fi_v5, fi_n0, fi_n1, fi_n2, fi_mm, fi_stat, fi_alds, fi_tsw, List.getElem?_cons_zero, List.getElem?_cons_succ, List.set_cons_zero, List.set_cons_succ, List.length_cons, List.length_nil, Option.toList_some, Option.toList_none, List.cons_append, List.nil_append, Value.category, true_and, k_0, k_1, k_2, k_3, k_4, false_implies, true_implies, reduceCtorEq, hM.1]
  have c2 : ∀ a, a ≠ 63 → a ≠ 56 → σ2 a = σ1 a := fun a w1 w2 => funext fun b => hs2 a b w1 (fun z => w2 z.1)
  have e60 : σ3 60 = V 4 := by rw [t1 60 (by decide), c2 60 (by decide) (by decide)]; exact f2
  refine ⟨by decide, ⟨_, rfl⟩, (c_stands (V := V) (b := 68) (r := rwN (nDV V nS) m) hM h7 hn hM.2.2.2.2.2.2.2.2.2.2.2.2 (by decide) (fun i hi => rwN_lt (by omega)) ?_ ?_ ?_ ?_).mono ?_⟩
  · rw [t1 58 (by decide), c2 58 (by decide) (by decide), a1.1]; exact hT.2.2.1
  · rw [t1 56 (by decide), hs2 56 31 (by decide) (by omega)]; exact i1
  · rw [t1 68 (by decide), c2 68 (by decide) (by decide)]; exact i6 m hm
  · rw [t1 66 (by decide), c2 66 (by decide) (by decide)]; exact i2
  rintro r M' ⟨rfl, σ4, rfl, t3, t4⟩
  simp only [fi_const, fi_iload, fi_aload, fi_istore, fi_astore, fi_iinc, fi_bin, fi_div, fi_un, fi_dup, fi_dup2, fi_pop, fi_if, fi_cmp, fi_getf, fi_putf, fi_putr, fi_ald, fi_ast, fi_alen, fi_iret, fi_zret, fi_vret, fi_cut, fi_no, fi_s0, fi_s1, fi_s2, fi_s3, fi_s4, fi_v0, fi_v1, fi_v2, fi_v3, fi_v4, fi_v5, fi_n0, fi_n1, fi_n2, fi_mm, fi_stat, fi_alds, fi_tsw, List.getElem?_cons_zero, List.getElem?_cons_succ, List.set_cons_zero, List.set_cons_succ, List.length_cons, List.length_nil, Option.toList_some, Option.toList_none, List.cons_append, List.nil_append, Value.category, true_and, k_0, k_1, k_2, k_3, k_4, false_implies, true_implies, reduceCtorEq]
  have e4 : σ4 60 = stR V nS (rwN (nDV V nS) m) := by
    funext j
    rw [t4 j]
    unfold stR
    by_cases w : 4 ≤ j ∧ j < 4 + nS
    · rw [if_pos w, if_pos w, t2 j, if_pos (by omega), c2 60 (by decide) (by decide), f2]
    · rw [if_neg w, if_neg w, e60]
  have h2' : IM σ4 (chV V kp (stR V nS (rwN (nDV V nS) m))) (k0 kp + 1) nb := by
    have b1 : IM (fun a => if a = 60 then stR V nS (rwN (nDV V nS) m) else σ2 a) (chV V kp (stR V nS (rwN (nDV V nS) m))) (k0 kp + 1) nb := IM_ch a1 hkp hs2 s1 s2 (fun a w => if_neg w) (if_pos rfl)
    refine b1.sc (fun a b w => ?_)
    by_cases q : a = 60
    · subst q; rw [if_pos rfl, e4]
    · rw [if_neg q, t3 a q, t1 a (by omega)]
  refine ⟨σ4, rfl, h2', fun a ha => ?_, ?_⟩
  · rw [t3 a (by omega), t1 a (by omega), c2 a (by omega) (by omega), a2 a ha, th_lo 0 a ha]
  · rw [t3 56 (by decide), t1 56 (by decide), hs2 56 0 (by decide) (by omega), a3, u_eq]
theorem n_useBest_x (hX : shX S) (hV : okV V nL nA nS kp nb) (hm : ¬ 0 ≤ bcV V nA nS) : askM g S fr τ V kp nb m_X9_useBestOrder [.ref 56] (bcV V nA nS) 0 := by
  intro σ h
  obtain ⟨hT, hN, h9, hkp, -⟩ := id hV
  have hM := hX.m
  have h1 := h.th 0
  refine fs_enterC (by decide) (by simp [fs_ok]) (Nat.le_of_ble_eq_true rfl) (fun d => S_X9_useBestOrder_0 ?_)
  show T_X9_useBestOrder_0 g d _ [.ref 56, .null] [] _
  simp only [T_X9_useBestOrder_0, fi_const, fi_iload, fi_aload, fi_istore, fi_astore, fi_iinc, fi_bin, fi_div, fi_un, fi_dup, fi_dup2, fi_pop, fi_if, fi_cmp, fi_getf, fi_putf, fi_putr, fi_ald, fi_ast, fi_alen, fi_iret, fi_zret, fi_vret, fi_cut, fi_no, fi_s0, fi_s1, fi_s2, fi_s3, fi_s4, fi_v0, fi_v1, fi_v2, fi_v3, fi_v4, fi_v5, fi_n0, fi_n1, fi_n2, fi_mm, fi_stat, fi_alds, fi_tsw, List.getElem?_cons_zero, List.getElem?_cons_succ, List.set_cons_zero, List.set_cons_succ, List.length_cons, List.length_nil, Option.toList_some, Option.toList_none, List.cons_append, List.nil_append, Value.category, true_and, k_0, k_1, k_2, k_3, k_4, false_implies, true_implies, reduceCtorEq]
  simp only [fi_const, fi_iload, fi_aload, fi_istore, fi_astore, fi_iinc, fi_bin, fi_div, fi_un, fi_dup, fi_dup2, fi_pop, fi_if, fi_cmp, fi_getf, fi_putf, fi_putr, fi_ald, fi_ast, fi_alen, fi_iret, fi_zret, fi_vret, fi_cut, fi_no, fi_s0, fi_s1, fi_s2, fi_s3, fi_s4, fi_v0, fi_v1, fi_v2, fi_v3, fi_v4, fi_v5, fi_n0, fi_n1, fi_n2, fi_mm, fi_stat, fi_alds, fi_tsw, List.getElem?_cons_zero, List.getElem?_cons_succ, List.set_cons_zero, List.set_cons_succ, List.length_cons, List.length_nil, Option.toList_some, Option.toList_none, List.cons_append, List.nil_append, Value.category, true_and, k_0, k_1, k_2, k_3, k_4, false_implies, true_implies, reduceCtorEq, hM.1]
  refine ⟨by decide, ⟨_, rfl⟩, (c_searches hX hT hN h1).mono ?_⟩
  rintro r M' ⟨rfl, σ1, rfl, f1, f2, f3⟩
  obtain ⟨a1, a2, a3⟩ := seS.IM h1 f1 f2
  simp only [fi_const, fi_iload, fi_aload, fi_istore, fi_astore, fi_iinc, fi_bin, fi_div, fi_un, fi_dup, fi_dup2, fi_pop, fi_if, fi_cmp, fi_getf, fi_putf, fi_putr, fi_ald, fi_ast, fi_alen, fi_iret, fi_zret, fi_vret, fi_cut, fi_no, fi_s0, fi_s1, fi_s2, fi_s3, fi_s4, fi_v0, fi_v1, fi_v2, fi_v3, fi_v4, fi_v5, fi_n0, fi_n1, fi_n2, fi_mm, fi_stat, fi_alds, fi_tsw, List.getElem?_cons_zero, List.getElem?_cons_succ, List.set_cons_zero, List.set_cons_succ, List.length_cons, List.length_nil, Option.toList_some, Option.toList_none, List.cons_append, List.nil_append, Value.category, true_and, k_0, k_1, k_2, k_3, k_4, false_implies, true_implies, reduceCtorEq, hM.1]
  exact ⟨fun z => absurd z hm, fun _ => ⟨σ1, rfl, a1, fun a ha => by rw [a2 a ha, th_lo 0 a ha], by rw [a3, u_eq]⟩⟩
end PS9
