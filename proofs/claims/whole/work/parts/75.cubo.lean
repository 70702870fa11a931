/-! ===== useBestOrder of the class ===== -/
section PSa
variable {g : fs_G} {d : Nat} {S : List fs_Sh} {fr : Bool} {σ σ0 : Nat → Nat → Int32} {τ : Nat → Nat → Int64} {V : Vt} {nL nA nS kp nb : Nat}
theorem l_placeOfC (hS : shS S) {n : Nat} (hn : n ≤ 7) {f : Nat → Nat} {x : Int32} (h0 : σ 50 0 = nI n) (h1 : ∀ i, i < n → σ 51 i = nI (f i)) : ∀ m k, k + m = n → fs_R g m_X3_placeOf d (0, 0) 2 [.ref 50, .int x, .int (nI k)] [] ((S, fr), σ, τ) (fun r M' => (∃ y, r = some (.int y) ∧ ((y = -1 ∧ ∀ i, k ≤ i → i < n → ¬ x = nI (f i)) ∨ ∃ i, k ≤ i ∧ i < n ∧ y = nI i ∧ x = nI (f i))) ∧ ((S, fr), σ, τ) = M')
  | 0, k, hk => by
    refine S_X3_placeOf_2 ?_
    simp only [T_X3_placeOf_2, fi_const, fi_iload, fi_aload, fi_istore, fi_astore, fi_iinc, fi_bin, fi_div, fi_un, fi_dup, fi_dup2, fi_pop, fi_if, fi_cmp, fi_getf, fi_putf, fi_putr, fi_ald, fi_ast, fi_alen, fi_iret, fi_zret, fi_vret, fi_cut, fi_no, fi_s0, fi_s1, fi_s2, fi_s3, fi_s4, fi_v0, fi_v1, fi_v2, fi_v3, fi_v4, fi_v5, fi_n0, fi_n1, fi_n2, fi_mm, fi_stat, fi_alds, fi_tsw, List.getElem?_cons_zero, List.getElem?_cons_succ, List.set_cons_zero, List.set_cons_succ, List.length_cons, List.length_nil, Option.toList_some, Option.toList_none, List.cons_append, List.nil_append, Value.category, true_and, k_0, k_1, k_2, k_3, k_4, false_implies, true_implies, reduceCtorEq, hS.1, h0]
    refine pk_le n k (fun _ => ?_) (fun z => by omega)
    exact ⟨⟨_, rfl, Or.inl ⟨rfl, fun i h1 h2 => by omega⟩⟩, trivial⟩
  | m + 1, k, hk => by
    have i7 : vp_in (nI k) 7 := vp_in_nI (by omega) (by decide)
    have e := h1 k (by omega)
    refine S_X3_placeOf_2 ?_
    simp only [T_X3_placeOf_2, fi_const, fi_iload, fi_aload, fi_istore, fi_astore, fi_iinc, fi_bin, fi_div, fi_un, fi_dup, fi_dup2, fi_pop, fi_if, fi_cmp, fi_getf, fi_putf, fi_putr, fi_ald, fi_ast, fi_alen, fi_iret, fi_zret, fi_vret, fi_cut, fi_no, fi_s0, fi_s1, fi_s2, fi_s3, fi_s4, fi_v0, fi_v1, fi_v2, fi_v3, fi_v4, fi_v5, fi_n0, fi_n1, fi_n2, fi_mm, fi_stat, fi_alds, fi_tsw, List.getElem?_cons_zero, List.getElem?_cons_succ, List.set_cons_zero, List.set_cons_succ, List.length_cons, List.length_nil, Option.toList_some, Option.toList_none, List.cons_append, List.nil_append, Value.category, true_and, k_0, k_1, k_2, k_3, k_4, false_implies, true_implies, reduceCtorEq, hS.1, h0, hS.2.1, i7, nI_clamp (show k < 2 ^ 31 by omega), e, nI_1]
    refine pk_le n k (fun z => by omega) (fun _ => ⟨fun q => ?_, fun q => ?_⟩)
    · exact ⟨⟨_, rfl, Or.inr ⟨k, Nat.le_refl _, by omega, rfl, q.symm⟩⟩, trivial⟩
    · refine fs_R_mono (l_placeOfC hS hn h0 h1 m (k + 1) (by omega)) ?_
      rintro r M' ⟨⟨y, rfl, hy⟩, rfl⟩
      refine ⟨⟨y, rfl, ?_⟩, rfl⟩
      rcases hy with ⟨w, v⟩ | ⟨i, w1, w2, w3, w4⟩
      · refine Or.inl ⟨w, fun i u1 u2 => ?_⟩
        by_cases p : i = k
        · rw [p]; exact fun z => q z.symm
        · exact v i (by omega) u2
      · exact Or.inr ⟨i, by omega, w2, w3, w4⟩
theorem c_placeOfC (hS : shS S) {n : Nat} (hn : n ≤ 7) {f : Nat → Nat} {x : Int32} (hf : ∀ i j, i < n → j < n → nI (f i) = nI (f j) → i = j) (h0 : σ 50 0 = nI n) (h1 : ∀ i, i < n → σ 51 i = nI (f i)) : fs_Ct g m_X3_placeOf [.ref 50, .int x] ((S, fr), σ, τ) (fun r M' => r = some (.int (sdF x f n)) ∧ ((S, fr), σ, τ) = M') := by
  refine fs_enterC (by decide) (by simp [fs_ok]) (Nat.le_of_ble_eq_true rfl) (fun d => S_X3_placeOf_0 ?_)
  show T_X3_placeOf_0 g d _ [.ref 50, .int x, .null] [] _
  simp only [T_X3_placeOf_0, fi_const, fi_iload, fi_aload, fi_istore, fi_astore, fi_iinc, fi_bin, fi_div, fi_un, fi_dup, fi_dup2, fi_pop, fi_if, fi_cmp, fi_getf, fi_putf, fi_putr, fi_ald, fi_ast, fi_alen, fi_iret, fi_zret, fi_vret, fi_cut, fi_no, fi_s0, fi_s1, fi_s2, fi_s3, fi_s4, fi_v0, fi_v1, fi_v2, fi_v3, fi_v4, fi_v5, fi_n0, fi_n1, fi_n2, fi_mm, fi_stat, fi_alds, fi_tsw, List.getElem?_cons_zero, List.getElem?_cons_succ, List.set_cons_zero, List.set_cons_succ, List.length_cons, List.length_nil, Option.toList_some, Option.toList_none, List.cons_append, List.nil_append, Value.category, true_and, k_0, k_1, k_2, k_3, k_4, false_implies, true_implies, reduceCtorEq]
  refine fs_R_mono (l_placeOfC hS hn h0 h1 n 0 (by omega)) ?_
  rintro r M' ⟨⟨y, rfl, hy⟩, rfl⟩
  refine ⟨?_, rfl⟩
  rcases hy with ⟨w, v⟩ | ⟨i, w1, w2, w3, w4⟩
  · rw [w, sdF_no n (fun i hi => v i (Nat.zero_le _) hi)]
  · rw [w3, sdF_at w4 n w2 (fun j hj hx => hf j i hj w2 (hx.symm.trans w4))]
theorem l_ubo (hX : shX S) (hS : shS S) (hV : okV V nL nA nS kp nb) {m : Nat} (h7 : nDV V nS ≤ 7) (hm : bsV V nA nS = some m) {v : Value} : ∀ t k σ, k + t = nS → σ 2 7 = nI nS → σ 50 0 = nI (nDV V nS) → (∀ i, i < nDV V nS → σ 51 i = nI (owV V nS (rwN (nDV V nS) m i))) → (∀ j, j < 14 → σ 12 j = if j < k then stR V nS (rwN (nDV V nS) m) (4 + j) else V 4 (4 + j)) →
    (∀ σ', (∀ c, c ≠ 12 → σ' c = σ c) → (∀ j, j < 14 → σ' 12 j = stR V nS (rwN (nDV V nS) m) (4 + j)) → IC0 σ' (chV V kp (stR V nS (rwN (nDV V nS) m))) nL nA nS (k0 kp + 1) nb) →
    fs_R g m_X8_useBestOrder d (0, 0) 27 [.ref 0, v, .int (nI k)] [] ((S, fr), σ, τ) (fun r M' => r = some (.int (nI (ccV V nA nS m))) ∧ ∃ σ', M' = ((S, fr), σ', τ) ∧ IC σ' (chV V kp (stR V nS (rwN (nDV V nS) m))) nL nA nS (k0 kp + 1) nb ∧ ∀ a, 56 ≤ a → σ' a = σ a)
  | 0, k, σ, hk, h2, h50, h51, h12, K => by
    obtain ⟨hT, hN, h9, hkp, -⟩ := id hV
    have hn := hT.2.2.2.2.2.1
    have hP := hX.2.2.1
    have hD := hX.2.2.2.1
    have hV' := okV_ch hV (okN_st hT hN h7 (bs_gd hm))
    refine S_X8_useBestOrder_27 ?_
    simp only [T_X8_useBestOrder_27, fi_const, fi_iload, fi_aload, fi_istore, fi_astore, fi_iinc, fi_bin, fi_div, fi_un, fi_dup, fi_dup2, fi_pop, fi_if, fi_cmp, fi_getf, fi_putf, fi_putr, fi_ald, fi_ast, fi_alen, fi_iret, fi_zret, fi_vret, fi_cut, fi_no, fi_s0, fi_s1, fi_s2, fi_s3, fi_s4, fi_v0, fi_v1, fi_v2, fi_v3, fi_v4, fi_v5, fi_n0, fi_n1, fi_n2, fi_mm, fi_stat, fi_alds, fi_tsw, List.getElem?_cons_zero, List.getElem?_cons_succ, List.set_cons_zero, List.set_cons_succ, List.length_cons, List.length_nil, Option.toList_some, Option.toList_none, List.cons_append, List.nil_append, Value.category, true_and, k_0, k_1, k_2, k_3, k_4, false_implies, true_implies, reduceCtorEq, hX.1, hP.1, h2]
    refine pk_le nS k (fun _ => ?_) (fun z => by omega)
    have h3 := K σ (fun _ _ => rfl) (fun j hj => by
      rw [h12 j hj]
      by_cases q : j < k
      · rw [if_pos q]
      · rw [if_neg q]; unfold stR; rw [if_neg (by omega)])
    refine ⟨by decide, ⟨_, rfl⟩, (c_refresh hX hS hV'.1 hV'.2.1 h3).mono ?_⟩
    rintro r M' ⟨rfl, σ4, rfl, h4, hs4⟩
    simp only [fi_const, fi_iload, fi_aload, fi_istore, fi_astore, fi_iinc, fi_bin, fi_div, fi_un, fi_dup, fi_dup2, fi_pop, fi_if, fi_cmp, fi_getf, fi_putf, fi_putr, fi_ald, fi_ast, fi_alen, fi_iret, fi_zret, fi_vret, fi_cut, fi_no, fi_s0, fi_s1, fi_s2, fi_s3, fi_s4, fi_v0, fi_v1, fi_v2, fi_v3, fi_v4, fi_v5, fi_n0, fi_n1, fi_n2, fi_mm, fi_stat, fi_alds, fi_tsw, List.getElem?_cons_zero, List.getElem?_cons_succ, List.set_cons_zero, List.set_cons_succ, List.length_cons, List.length_nil, Option.toList_some, Option.toList_none, List.cons_append, List.nil_append, Value.category, true_and, k_0, k_1, k_2, k_3, k_4, false_implies, true_implies, reduceCtorEq, hX.1]
    refine ⟨by decide, ⟨_, hD.1⟩, (c_totalCost hD hP hT.2.2.2.2.1 h4.1.2.1 (h4.loc hV'.1 hV'.2.1)).mono ?_⟩
    rintro r M' ⟨rfl, rfl⟩
    simp only [fi_const, fi_iload, fi_aload, fi_istore, fi_astore, fi_iinc, fi_bin, fi_div, fi_un, fi_dup, fi_dup2, fi_pop, fi_if, fi_cmp, fi_getf, fi_putf, fi_putr, fi_ald, fi_ast, fi_alen, fi_iret, fi_zret, fi_vret, fi_cut, fi_no, fi_s0, fi_s1, fi_s2, fi_s3, fi_s4, fi_v0, fi_v1, fi_v2, fi_v3, fi_v4, fi_v5, fi_n0, fi_n1, fi_n2, fi_mm, fi_stat, fi_alds, fi_tsw, List.getElem?_cons_zero, List.getElem?_cons_succ, List.set_cons_zero, List.set_cons_succ, List.length_cons, List.length_nil, Option.toList_some, Option.toList_none, List.cons_append, List.nil_append, Value.category, true_and, k_0, k_1, k_2, k_3, k_4, false_implies, true_implies, reduceCtorEq]
    exact ⟨congrArg _ (congrArg _ ((h4.co hV'.1 hV'.2.1).trans (co_st hT hN m))), σ4, rfl, h4, hs4⟩
  | t + 1, k, σ, hk, h2, h50, h51, h12, K => by
    obtain ⟨hT, hN, h9, hkp, -⟩ := id hV
    have hn := hT.2.2.2.2.2.1
    have hP := hX.2.2.1
    have hpm : pmB (rwN (nDV V nS) m) (nDV V nS) = true := by have hg := bs_gd hm; unfold gdV at hg; exact (Bool.and_eq_true _ _ ▸ hg).1
    have i14 : vp_in (nI k) 14 := vp_in_nI (by omega) (by decide)
    have e12 : σ 12 k = V 4 (4 + k) := by rw [h12 k (by omega), if_neg (by omega)]
    refine S_X8_useBestOrder_27 ?_
    simp only [T_X8_useBestOrder_27, fi_const, fi_iload, fi_aload, fi_istore, fi_astore, fi_iinc, fi_bin, fi_div, fi_un, fi_dup, fi_dup2, fi_pop, fi_if, fi_cmp, fi_getf, fi_putf, fi_putr, fi_ald, fi_ast, fi_alen, fi_iret, fi_zret, fi_vret, fi_cut, fi_no, fi_s0, fi_s1, fi_s2, fi_s3, fi_s4, fi_v0, fi_v1, fi_v2, fi_v3, fi_v4, fi_v5, fi_n0, fi_n1, fi_n2, fi_mm, fi_stat, fi_alds, fi_tsw, List.getElem?_cons_zero, List.getElem?_cons_succ, List.set_cons_zero, List.set_cons_succ, List.length_cons, List.length_nil, Option.toList_some, Option.toList_none, List.cons_append, List.nil_append, Value.category, true_and, k_0, k_1, k_2, k_3, k_4, false_implies, true_implies, reduceCtorEq, hX.1, hP.1, h2, hP.2.2.2.2.2.2.2.2.2.2.1, show 2 + 10 = 12 from rfl, i14, nI_clamp (show k < 2 ^ 31 by omega), e12]
    refine pk_le nS k (fun z => by omega) (fun _ => ?_)
    refine ⟨by decide, ⟨_, hS.1⟩, (c_placeOfC (f := fun i => owV V nS (rwN (nDV V nS) m i)) hS h7 (fun i j hi hj e => ?_) h50 h51).mono ?_⟩
    · have r1 : rwN (nDV V nS) m i < nDV V nS := rwN_lt (by omega)
      have r2 : rwN (nDV V nS) m j < nDV V nS := rwN_lt (by omega)
      have o1 := (ow_lt r1).1
      have o2 := (ow_lt r2).1
      exact pm_inj hpm hi hj (ow_inj r1 r2 ((nI_eq (by omega) (by omega)).mp e))
    rintro r M' ⟨rfl, rfl⟩
    simp only [fi_const, fi_iload, fi_aload, fi_istore, fi_astore, fi_iinc, fi_bin, fi_div, fi_un, fi_dup, fi_dup2, fi_pop, fi_if, fi_cmp, fi_getf, fi_putf, fi_putr, fi_ald, fi_ast, fi_alen, fi_iret, fi_zret, fi_vret, fi_cut, fi_no, fi_s0, fi_s1, fi_s2, fi_s3, fi_s4, fi_v0, fi_v1, fi_v2, fi_v3, fi_v4, fi_v5, fi_n0, fi_n1, fi_n2, fi_mm, fi_stat, fi_alds, fi_tsw, List.getElem?_cons_zero, List.getElem?_cons_succ, List.set_cons_zero, List.set_cons_succ, List.length_cons, List.length_nil, Option.toList_some, Option.toList_none, List.cons_append, List.nil_append, Value.category, true_and, k_0, k_1, k_2, k_3, k_4, false_implies, true_implies, reduceCtorEq, hP.2.2.2.2.2.2.2.2.2.2.1, i14, nI_clamp (show k < 2 ^ 31 by omega), nI_1]
    refine fs_R_mono (l_ubo hX hS hV h7 hm t (k + 1) (fs_u σ 12 k (sdF (V 4 (4 + k)) (fun i => owV V nS (rwN (nDV V nS) m i)) (nDV V nS))) (by omega) (by rw [fs_u_ne (by decide)]; exact h2) (by rw [fs_u_ne (by decide)]; exact h50) (by rw [fs_u_ne (by decide)]; exact h51) (fun j hj => ?_) (fun σ' f1 f2 => K σ' (fun c hc => by rw [f1 c hc, fs_u_ne hc]) f2)) ?_
    · by_cases q : j = k
      · subst q
        rw [u_eq, if_pos (by omega)]
        unfold stR
        rw [if_pos (by omega)]
      · simp only [fs_u]
        rw [if_neg (fun z => q z.2), h12 j hj]
        by_cases w : j < k
        · rw [if_pos w, if_pos (by omega)]
        · rw [if_neg w, if_neg (by omega)]
    rintro r M' ⟨rfl, σ', rfl, f1, f2⟩
    exact ⟨rfl, σ', rfl, f1, fun a ha => by rw [f2 a ha, fs_u_ne (by omega)]⟩
theorem k_useBest (hX : shX S) (hS : shS S) (hV : okV V nL nA nS kp nb) {m : Nat} (h7 : nDV V nS ≤ 7) (hm : bsV V nA nS = some m) : chgC g S fr τ V nL nA nS kp nb m_X8_useBestOrder [.ref 0] (nI (ccV V nA nS m)) (chV V kp (stR V nS (rwN (nDV V nS) m))) (k0 kp + 1) := by
  intro σ h
  obtain ⟨hT, hN, h9, hkp, -⟩ := id hV
  have hP := hX.2.2.1
  have hH := hX.2.2.2.2.2.1
  have eb : bcV V nA nS = nI (ccV V nA nS m) := by unfold bcV; rw [if_neg (by omega), hm]
  have hcc := cc_le (nA := nA) hT hN m
  refine fs_enterC (by decide) (by simp [fs_ok]) (Nat.le_of_ble_eq_true rfl) (fun d => S_X8_useBestOrder_0 ?_)
  show T_X8_useBestOrder_0 g d _ [.ref 0, .null, .null] [] _
  simp only [T_X8_useBestOrder_0, fi_const, fi_iload, fi_aload, fi_istore, fi_astore, fi_iinc, fi_bin, fi_div, fi_un, fi_dup, fi_dup2, fi_pop, fi_if, fi_cmp, fi_getf, fi_putf, fi_putr, fi_ald, fi_ast, fi_alen, fi_iret, fi_zret, fi_vret, fi_cut, fi_no, fi_s0, fi_s1, fi_s2, fi_s3, fi_s4, fi_v0, fi_v1, fi_v2, fi_v3, fi_v4, fi_v5, fi_n0, fi_n1, fi_n2, fi_mm, fi_stat, fi_alds, fi_tsw, List.getElem?_cons_zero, List.getElem?_cons_succ, List.set_cons_zero, List.set_cons_succ, List.length_cons, List.length_nil, Option.toList_some, Option.toList_none, List.cons_append, List.nil_append, Value.category, true_and, k_0, k_1, k_2, k_3, k_4, false_implies, true_implies, reduceCtorEq]
  simp only [fi_const, fi_iload, fi_aload, fi_istore, fi_astore, fi_iinc, fi_bin, fi_div, fi_un, fi_dup, fi_dup2, fi_pop, fi_if, fi_cmp, fi_getf, fi_putf, fi_putr, fi_ald, fi_ast, fi_alen, fi_iret, fi_zret, fi_vret, fi_cut, fi_no, fi_s0, fi_s1, fi_s2, fi_s3, fi_s4, fi_v0, fi_v1, fi_v2, fi_v3, fi_v4, fi_v5, fi_n0, fi_n1, fi_n2, fi_mm, fi_stat, fi_alds, fi_tsw, List.getElem?_cons_zero, List.getElem?_cons_succ, List.set_cons_zero, List.set_cons_succ, List.length_cons, List.length_nil, Option.toList_some, Option.toList_none, List.cons_append, List.nil_append, Value.category, true_and, k_0, k_1, k_2, k_3, k_4, false_implies, true_implies, reduceCtorEq, hX.1]
  refine ⟨by decide, ⟨_, hS.1⟩, (c_least hX hS hT hN h).mono ?_⟩
  rintro r M' ⟨rfl, σ1, rfl, h1, hs1, hK⟩
  obtain ⟨k0', k1'⟩ := hK.2 h7
  rw [eb]
  simp only [fi_const, fi_iload, fi_aload, fi_istore, fi_astore, fi_iinc, fi_bin, fi_div, fi_un, fi_dup, fi_dup2, fi_pop, fi_if, fi_cmp, fi_getf, fi_putf, fi_putr, fi_ald, fi_ast, fi_alen, fi_iret, fi_zret, fi_vret, fi_cut, fi_no, fi_s0, fi_s1, fi_s2, fi_s3, fi_s4, fi_v0, fi_v1, fi_v2, fi_v3, fi_v4, fi_v5, fi_n0, fi_n1, fi_n2, fi_mm, fi_stat, fi_alds, fi_tsw, List.getElem?_cons_zero, List.getElem?_cons_succ, List.set_cons_zero, List.set_cons_succ, List.length_cons, List.length_nil, Option.toList_some, Option.toList_none, List.cons_append, List.nil_append, Value.category, true_and, k_0, k_1, k_2, k_3, k_4, false_implies, true_implies, reduceCtorEq, hX.1]
  refine ⟨fun _ => ⟨by decide, ⟨_, hH⟩, (c_keep hX hkp h1.2.2.2.2.2.2.2.1).mono ?_⟩, fun z => absurd (nI_pos' (by omega)) z⟩
  rintro r M' ⟨rfl, σ2, rfl, hs2, s1, s2⟩
  simp only [fi_const, fi_iload, fi_aload, fi_istore, fi_astore, fi_iinc, fi_bin, fi_div, fi_un, fi_dup, fi_dup2, fi_pop, fi_if, fi_cmp, fi_getf, fi_putf, fi_putr, fi_ald, fi_ast, fi_alen, fi_iret, fi_zret, fi_vret, fi_cut, fi_no, fi_s0, fi_s1, fi_s2, fi_s3, fi_s4, fi_v0, fi_v1, fi_v2, fi_v3, fi_v4, fi_v5, fi_n0, fi_n1, fi_n2, fi_mm, fi_stat, fi_alds, fi_tsw, List.getElem?_cons_zero, List.getElem?_cons_succ, List.set_cons_zero, List.set_cons_succ, List.length_cons, List.length_nil, Option.toList_some, Option.toList_none, List.cons_append, List.nil_append, Value.category, true_and, k_0, k_1, k_2, k_3, k_4, false_implies, true_implies, reduceCtorEq, hX.1]
  refine fs_R_mono (l_ubo hX hS hV h7 hm nS 0 σ2 (by omega) (by rw [hs2 2 (by omega)]; exact h1.1.2.2) (by rw [hs2 50 (by omega)]; exact k0') (by rw [hs2 51 (by omega)]; exact k1' m hm) (fun j hj => ?_) (fun σ' f1 f2 => ?_)) ?_
  · rw [if_neg (by omega), hs2 12 (by omega)]
    exact h1.2.2.2.2.1 j hj
  · refine IC0_ch h1 hkp hs2 s1 s2 (fun a _ w _ => f1 a w) f2 (fun i hi => ?_)
    rw [f1 13 (by decide), hs2 13 (by omega)]
    unfold stR
    rw [if_neg (by omega)]
    exact h1.set hi
  rintro r M' ⟨rfl, σ3, rfl, h3, hs3⟩
  exact ⟨rfl, σ3, rfl, h3, fun a ha => by rw [hs3 a ha, hs2 a (by omega), hs1 a ha]⟩
theorem k_useBest_x (hX : shX S) (hS : shS S) (hV : okV V nL nA nS kp nb) (hm : ¬ 0 ≤ bcV V nA nS) : askC g S fr τ V nL nA nS kp nb m_X8_useBestOrder [.ref 0] (bcV V nA nS) := by
  intro σ h
  obtain ⟨hT, hN, h9, hkp, -⟩ := id hV
  refine fs_enterC (by decide) (by simp [fs_ok]) (Nat.le_of_ble_eq_true rfl) (fun d => S_X8_useBestOrder_0 ?_)
  show T_X8_useBestOrder_0 g d _ [.ref 0, .null, .null] [] _
  simp only [T_X8_useBestOrder_0, fi_const, fi_iload, fi_aload, fi_istore, fi_astore, fi_iinc, fi_bin, fi_div, fi_un, fi_dup, fi_dup2, fi_pop, fi_if, fi_cmp, fi_getf, fi_putf, fi_putr, fi_ald, fi_ast, fi_alen, fi_iret, fi_zret, fi_vret, fi_cut, fi_no, fi_s0, fi_s1, fi_s2, fi_s3, fi_s4, fi_v0, fi_v1, fi_v2, fi_v3, fi_v4, fi_v5, fi_n0, fi_n1, fi_n2, fi_mm, fi_stat, fi_alds, fi_tsw, List.getElem?_cons_zero, List.getElem?_cons_succ, List.set_cons_zero, List.set_cons_succ, List.length_cons, List.length_nil, Option.toList_some, Option.toList_none, List.cons_append, List.nil_append, Value.category, true_and, k_0, k_1, k_2, k_3, k_4, false_implies, true_implies, reduceCtorEq]
  simp only [fi_const, fi_iload, fi_aload, fi_istore, fi_astore, fi_iinc, fi_bin, fi_div, fi_un, fi_dup, fi_dup2, fi_pop, fi_if, fi_cmp, fi_getf, fi_putf, fi_putr, fi_ald, fi_ast, fi_alen, fi_iret, fi_zret, fi_vret, fi_cut, fi_no, fi_s0, fi_s1, fi_s2, fi_s3, fi_s4, fi_v0, fi_v1, fi_v2, fi_v3, fi_v4, fi_v5, fi_n0, fi_n1, fi_n2, fi_mm, fi_stat, fi_alds, fi_tsw, List.getElem?_cons_zero, List.getElem?_cons_succ, List.set_cons_zero, List.set_cons_succ, List.length_cons, List.length_nil, Option.toList_some, Option.toList_none, List.cons_append, List.nil_append, Value.category, true_and, k_0, k_1, k_2, k_3, k_4, false_implies, true_implies, reduceCtorEq, hX.1]
  refine ⟨by decide, ⟨_, hS.1⟩, (c_least hX hS hT hN h).mono ?_⟩
  rintro r M' ⟨rfl, σ1, rfl, h1, hs1, hK⟩
  simp only [fi_const, fi_iload, fi_aload, fi_istore, fi_astore, fi_iinc, fi_bin, fi_div, fi_un, fi_dup, fi_dup2, fi_pop, fi_if, fi_cmp, fi_getf, fi_putf, fi_putr, fi_ald, fi_ast, fi_alen, fi_iret, fi_zret, fi_vret, fi_cut, fi_no, fi_s0, fi_s1, fi_s2, fi_s3, fi_s4, fi_v0, fi_v1, fi_v2, fi_v3, fi_v4, fi_v5, fi_n0, fi_n1, fi_n2, fi_mm, fi_stat, fi_alds, fi_tsw, List.getElem?_cons_zero, List.getElem?_cons_succ, List.set_cons_zero, List.set_cons_succ, List.length_cons, List.length_nil, Option.toList_some, Option.toList_none, List.cons_append, List.nil_append, Value.category, true_and, k_0, k_1, k_2, k_3, k_4, false_implies, true_implies, reduceCtorEq, hX.1]
  exact ⟨fun z => absurd z hm, fun _ => ⟨σ1, rfl, h1, hs1⟩⟩
end PSa
