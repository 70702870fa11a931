/-! ===== changes of the reference: put, take ===== -/
section PC5
variable {g : fs_G} {d : Nat} {S : List fs_Sh} {fr : Bool} {σ : Nat → Nat → Int32} {τ : Nat → Nat → Int64} {V : Vt} {nL nA nS kp nb : Nat}
theorem IM_ch {σ1 σ2 : Nat → Nat → Int32} {N : Nat → Int32} (h : IM σ V kp nb) (hk : kp ≤ 12) (hs : kpS σ σ1) (s1 : σ1 56 9 = nI (k0 kp + 1)) (s2 : ∀ b, b < 18 * (k0 kp + 1) → σ1 63 b = keR (σ 63) (σ 60) kp b) (hr : ∀ a, a ≠ 60 → σ2 a = σ1 a) (hd : σ2 60 = N) : IM σ2 (chV V kp N) (k0 kp + 1) nb := by
  obtain ⟨h1, h2, h3, h4, h5, h6, h7⟩ := h
  unfold IM
  rw [chV_2, chV_4, chV_7, chV_1, hr 58 (by decide), hr 63 (by decide), hr 57 (by decide), hr 56 (by decide)]
  refine ⟨?_, hd, fun b hb => ?_, fun i hi => ?_, ?_, ?_, ?_⟩
  · rw [← h1]; funext b; exact hs 58 b (by decide) (by omega)
  · rw [s2 b hb]
    exact keR_congr hk h3 (fun i _ => by rw [h2]) b hb
  · rw [hs 57 i (by decide) (by omega)]; exact h4 i hi
  · rw [hs 56 2 (by decide) (by omega), h5]; simp [chV]
  · rw [s1]; simp [chV]
  · rw [hs 56 18 (by decide) (by omega), h7]; simp [chV]
theorem n_put (hX : shX S) (hV : okV V nL nA nS kp nb) {k e : Nat} (hk : k < nS) (he : e < 12) (h0 : reV V nS k e = 0) : chgM g S fr τ V kp nb m_X9_put [.ref 56, .int (nI k), .int (nI e)] (cwW V nA nS k e) (chV V kp (nwN (V 4) k (nI e))) (k0 kp + 1) := by
  intro σ h
  obtain ⟨hT, hN, h9, hkp, -⟩ := id hV
  have hM := hX.m
  have hn := hT.2.2.2.2.2.1
  have h1 := h.th 0
  have hi : vp_in (nI (4 + k)) 18 := vp_in_nI (by omega) (by decide)
  refine fs_enterC (by decide) (by simp [fs_ok]) (Nat.le_of_ble_eq_true rfl) (fun d => S_X9_put_0 ?_)
  show T_X9_put_0 g d _ [.ref 56, .int (nI k), .int (nI e)] [] _
  simp only [T_X9_put_0, fi_const, fi_iload, fi_aload, fi_istore, fi_astore, fi_iinc, fi_bin, fi_div, fi_un, fi_dup, fi_dup2, fi_pop, fi_if, fi_cmp, fi_getf, fi_putf, fi_putr, fi_ald, fi_ast, fi_alen, fi_iret, fi_zret, fi_vret, fi_cut, fi_no, fi_s0, fi_s1, fi_s2, fi_s3, fi_s4, fi_v0, fi_v1, fi_v2, fi_v3, fi_v4, fi_v5, fi_n0, fi_n1, fi_n2, fi_mm, fi_stat, fi_alds, fi_tsw, List.getElem?_cons_zero, List.getElem?_cons_succ, List.set_cons_zero, List.set_cons_succ, List.length_cons, List.length_nil, Option.toList_some, Option.toList_none, List.cons_append, List.nil_append, Value.category, true_and, k_0, k_1, k_2, k_3, k_4, false_implies, true_implies, reduceCtorEq]
  simp only [fi_const, fi_iload, fi_aload, fi_istore, fi_astore, fi_iinc, fi_bin, fi_div, fi_un, fi_dup, fi_dup2, fi_pop, fi_if, fi_cmp, fi_getf, fi_putf, fi_putr, fi_ald, fi_ast, fi_alen, fi_iret, fi_zret, fi_vret, fi_cut, fi_no, fi_s0, fi_s1, fi_s2, fi_s3, fi_s4, fi_v0, fi_v1, fi_v2, fi_v3, fi_v4, fi_v5, fi_n0, fi_n1, fi_n2, fi_mm, fi_stat, fi_alds, fi_tsw, List.getElem?_cons_zero, List.getElem?_cons_succ, List.set_cons_zero, List.set_cons_succ, List.length_cons, List.length_nil, Option.toList_some, Option.toList_none, List.cons_append, List.nil_append, Value.category, true_and, k_0, k_1, k_2, k_3, k_4, false_implies, true_implies, reduceCtorEq, hM.1]
  refine ⟨by decide, ⟨_, rfl⟩, (c_isSceneM hM (n := nS) (by rw [h1.1]; exact hT.2.2.1) (nI k)).mono ?_⟩
  rintro r M' ⟨rfl, rfl⟩
  rw [decide_eq_true (inI_of hk (by omega))]
  simp only [fi_const, fi_iload, fi_aload, fi_istore, fi_astore, fi_iinc, fi_bin, fi_div, fi_un, fi_dup, fi_dup2, fi_pop, fi_if, fi_cmp, fi_getf, fi_putf, fi_putr, fi_ald, fi_ast, fi_alen, fi_iret, fi_zret, fi_vret, fi_cut, fi_no, fi_s0, fi_s1, fi_s2, fi_s3, fi_s4, fi_v0, fi_v1, fi_v2, fi_v3, fi_v4, fi_v5, fi_n0, fi_n1, fi_n2, fi_mm, fi_stat, fi_alds, fi_tsw, List.getElem?_cons_zero, List.getElem?_cons_succ, List.set_cons_zero, List.set_cons_succ, List.length_cons, List.length_nil, Option.toList_some, Option.toList_none, List.cons_append, List.nil_append, Value.category, true_and, k_0, k_1, k_2, k_3, k_4, false_implies, true_implies, reduceCtorEq, bI_eq0, not_true, not_false_eq_true]
  refine ⟨by decide, (c_isDayM (nI e)).mono ?_⟩
  rintro r M' ⟨rfl, rfl⟩
  rw [decide_eq_true (inI_of he (by omega))]
  simp only [fi_const, fi_iload, fi_aload, fi_istore, fi_astore, fi_iinc, fi_bin, fi_div, fi_un, fi_dup, fi_dup2, fi_pop, fi_if, fi_cmp, fi_getf, fi_putf, fi_putr, fi_ald, fi_ast, fi_alen, fi_iret, fi_zret, fi_vret, fi_cut, fi_no, fi_s0, fi_s1, fi_s2, fi_s3, fi_s4, fi_v0, fi_v1, fi_v2, fi_v3, fi_v4, fi_v5, fi_n0, fi_n1, fi_n2, fi_mm, fi_stat, fi_alds, fi_tsw, List.getElem?_cons_zero, List.getElem?_cons_succ, List.set_cons_zero, List.set_cons_succ, List.length_cons, List.length_nil, Option.toList_some, Option.toList_none, List.cons_append, List.nil_append, Value.category, true_and, k_0, k_1, k_2, k_3, k_4, false_implies, true_implies, reduceCtorEq, bI_eq0, not_true, not_false_eq_true]
  refine ⟨by decide, ⟨_, hM.1⟩, (v_reason hM hT h1 hk).mono ?_⟩
  rintro r M' ⟨rfl, rfl⟩
  simp only [fi_const, fi_iload, fi_aload, fi_istore, fi_astore, fi_iinc, fi_bin, fi_div, fi_un, fi_dup, fi_dup2, fi_pop, fi_if, fi_cmp, fi_getf, fi_putf, fi_putr, fi_ald, fi_ast, fi_alen, fi_iret, fi_zret, fi_vret, fi_cut, fi_no, fi_s0, fi_s1, fi_s2, fi_s3, fi_s4, fi_v0, fi_v1, fi_v2, fi_v3, fi_v4, fi_v5, fi_n0, fi_n1, fi_n2, fi_mm, fi_stat, fi_alds, fi_tsw, List.getElem?_cons_zero, List.getElem?_cons_succ, List.set_cons_zero, List.set_cons_succ, List.length_cons, List.length_nil, Option.toList_some, Option.toList_none, List.cons_append, List.nil_append, Value.category, true_and, k_0, k_1, k_2, k_3, k_4, false_implies, true_implies, reduceCtorEq, h0]
  refine ⟨⟨by decide, ⟨_, hM.1⟩, (c_keepsM hM hkp (h1.2.2.2.2.2.1.trans h9)).mono ?_⟩, fun z => absurd trivial z⟩
  rintro r M' ⟨rfl, σ2, rfl, hs2, s1, s2⟩
  simp only [fi_const, fi_iload, fi_aload, fi_istore, fi_astore, fi_iinc, fi_bin, fi_div, fi_un, fi_dup, fi_dup2, fi_pop, fi_if, fi_cmp, fi_getf, fi_putf, fi_putr, fi_ald, fi_ast, fi_alen, fi_iret, fi_zret, fi_vret, fi_cut, fi_no, fi_s0, fi_s1, fi_s2, fi_s3, fi_s4, fi_v0, fi_v1, fi_v2, fi_v3, fi_v4, fi_v5, fi_n0, fi_n1, fi_n2, fi_mm, fi_stat, fi_alds, fi_tsw, List.getElem?_cons_zero, List.getElem?_cons_succ, List.set_cons_zero, List.set_cons_succ, List.length_cons, List.length_nil, Option.toList_some, Option.toList_none, List.cons_append, List.nil_append, Value.category, true_and, k_0, k_1, k_2, k_3, k_4, false_implies, true_implies, reduceCtorEq, hM.1, hM.2.2.2.2.1, li_4, nI_clamp (show 4 + k < 2 ^ 31 by omega), hi, show 56 + 4 = 60 from rfl]
  have h3 : IM (fs_u σ2 60 (4 + k) (nI e)) (chV V kp (nwN (V 4) k (nI e))) (k0 kp + 1) nb := by
    refine IM_ch h1 hkp hs2 s1 s2 (fun a h1 => fs_u_ne h1) ?_
    funext j
    simp only [fs_u, nwN]
    by_cases q : j = 4 + k
    · rw [if_pos ⟨trivial, q⟩, if_pos q]
    · rw [if_neg (fun z => q z.2), if_neg q, hs2 60 j (by decide) (by omega)]
      exact congrFun h1.2.1 j
  have hT' := okT_ch (chV_2 V kp (nwN (V 4) k (nI e))) hT
  refine ⟨by decide, ⟨_, rfl⟩, (v_cost (V := chV V kp (nwN (V 4) k (nI e))) (σ := fs_u σ2 60 (4 + k) (nI e)) hM hT' h3.1 (fun i _ => congrFun h3.2.1 i)).mono ?_⟩
  rintro r M' ⟨rfl, σ4, rfl, hs4⟩
  obtain ⟨h4, hs5, g0⟩ := cs_IM h3 hs4
  simp only [fi_const, fi_iload, fi_aload, fi_istore, fi_astore, fi_iinc, fi_bin, fi_div, fi_un, fi_dup, fi_dup2, fi_pop, fi_if, fi_cmp, fi_getf, fi_putf, fi_putr, fi_ald, fi_ast, fi_alen, fi_iret, fi_zret, fi_vret, fi_cut, fi_no, fi_s0, fi_s1, fi_s2, fi_s3, fi_s4, fi_v0, fi_v1, fi_v2, fi_v3, fi_v4, fi_v5, fi_n0, fi_n1, fi_n2, fi_mm, fi_stat, fi_alds, fi_tsw, List.getElem?_cons_zero, List.getElem?_cons_succ, List.set_cons_zero, List.set_cons_succ, List.length_cons, List.length_nil, Option.toList_some, Option.toList_none, List.cons_append, List.nil_append, Value.category, true_and, k_0, k_1, k_2, k_3, k_4, false_implies, true_implies, reduceCtorEq]
  refine ⟨congrArg _ (congrArg _ ?_), σ4, rfl, h4, fun a ha => ?_, ?_⟩
  · rw [h3.2.1]; exact coV_nw V nA nS kp k (nI e)
  · rw [hs5 a ha, fs_u_ne (by omega)]
    funext b
    rw [hs2 a b (by omega) (by omega), th_lo 0 a ha]
  · rw [g0, fs_u_ne (by decide), hs2 56 0 (by decide) (by omega)]; simp [fs_u]
theorem n_take (hX : shX S) (hV : okV V nL nA nS kp nb) {k : Nat} (hk : k < nS) (h0 : ¬ v_dy V k = -1) : chgM g S fr τ V kp nb m_X9_take [.ref 56, .int (nI k)] (coV V nA nS (dyA (v_dy V) k (-1))) (chV V kp (nwN (V 4) k (-1))) (k0 kp + 1) := by
  intro σ h
  obtain ⟨hT, hN, h9, hkp, -⟩ := id hV
  have hM := hX.m
  have hn := hT.2.2.2.2.2.1
  have h1 := h.th 0
  have hi : vp_in (nI (4 + k)) 18 := vp_in_nI (by omega) (by decide)
  refine fs_enterC (by decide) (by simp [fs_ok]) (Nat.le_of_ble_eq_true rfl) (fun d => S_X9_take_0 ?_)
  show T_X9_take_0 g d _ [.ref 56, .int (nI k)] [] _
  simp only [T_X9_take_0, fi_const, fi_iload, fi_aload, fi_istore, fi_astore, fi_iinc, fi_bin, fi_div, fi_un, fi_dup, fi_dup2, fi_pop, fi_if, fi_cmp, fi_getf, fi_putf, fi_putr, fi_ald, fi_ast, fi_alen, fi_iret, fi_zret, fi_vret, fi_cut, fi_no, fi_s0, fi_s1, fi_s2, fi_s3, fi_s4, fi_v0, fi_v1, fi_v2, fi_v3, fi_v4, fi_v5, fi_n0, fi_n1, fi_n2, fi_mm, fi_stat, fi_alds, fi_tsw, List.getElem?_cons_zero, List.getElem?_cons_succ, List.set_cons_zero, List.set_cons_succ, List.length_cons, List.length_nil, Option.toList_some, Option.toList_none, List.cons_append, List.nil_append, Value.category, true_and, k_0, k_1, k_2, k_3, k_4, false_implies, true_implies, reduceCtorEq]
  simp only [fi_const, fi_iload, fi_aload, fi_istore, fi_astore, fi_iinc, fi_bin, fi_div, fi_un, fi_dup, fi_dup2, fi_pop, fi_if, fi_cmp, fi_getf, fi_putf, fi_putr, fi_ald, fi_ast, fi_alen, fi_iret, fi_zret, fi_vret, fi_cut, fi_no, fi_s0, fi_s1, fi_s2, fi_s3, fi_s4, fi_v0, fi_v1, fi_v2, fi_v3, fi_v4, fi_v5, fi_n0, fi_n1, fi_n2, fi_mm, fi_stat, fi_alds, fi_tsw, List.getElem?_cons_zero, List.getElem?_cons_succ, List.set_cons_zero, List.set_cons_succ, List.length_cons, List.length_nil, Option.toList_some, Option.toList_none, List.cons_append, List.nil_append, Value.category, true_and, k_0, k_1, k_2, k_3, k_4, false_implies, true_implies, reduceCtorEq, hM.1]
  refine ⟨by decide, ⟨_, rfl⟩, (c_isSceneM hM (n := nS) (by rw [h1.1]; exact hT.2.2.1) (nI k)).mono ?_⟩
  rintro r M' ⟨rfl, rfl⟩
  rw [decide_eq_true (inI_of hk (by omega))]
  simp only [fi_const, fi_iload, fi_aload, fi_istore, fi_astore, fi_iinc, fi_bin, fi_div, fi_un, fi_dup, fi_dup2, fi_pop, fi_if, fi_cmp, fi_getf, fi_putf, fi_putr, fi_ald, fi_ast, fi_alen, fi_iret, fi_zret, fi_vret, fi_cut, fi_no, fi_s0, fi_s1, fi_s2, fi_s3, fi_s4, fi_v0, fi_v1, fi_v2, fi_v3, fi_v4, fi_v5, fi_n0, fi_n1, fi_n2, fi_mm, fi_stat, fi_alds, fi_tsw, List.getElem?_cons_zero, List.getElem?_cons_succ, List.set_cons_zero, List.set_cons_succ, List.length_cons, List.length_nil, Option.toList_some, Option.toList_none, List.cons_append, List.nil_append, Value.category, true_and, k_0, k_1, k_2, k_3, k_4, false_implies, true_implies, reduceCtorEq, bI_eq0, not_true, not_false_eq_true, hM.1, hM.2.2.2.2.1, li_4, nI_clamp (show 4 + k < 2 ^ 31 by omega), hi, show 56 + 4 = 60 from rfl, h1.2.1]
  refine ⟨fun z => absurd z h0, fun _ => ⟨by decide, ⟨_, rfl⟩, (c_keepsM hM hkp (h1.2.2.2.2.2.1.trans h9)).mono ?_⟩⟩
  rintro r M' ⟨rfl, σ2, rfl, hs2, s1, s2⟩
  simp only [fi_const, fi_iload, fi_aload, fi_istore, fi_astore, fi_iinc, fi_bin, fi_div, fi_un, fi_dup, fi_dup2, fi_pop, fi_if, fi_cmp, fi_getf, fi_putf, fi_putr, fi_ald, fi_ast, fi_alen, fi_iret, fi_zret, fi_vret, fi_cut, fi_no, fi_s0, fi_s1, fi_s2, fi_s3, fi_s4, fi_v0, fi_v1, fi_v2, fi_v3, fi_v4, fi_v5, fi_n0, fi_n1, fi_n2, fi_mm, fi_stat, fi_alds, fi_tsw, List.getElem?_cons_zero, List.getElem?_cons_succ, List.set_cons_zero, List.set_cons_succ, List.length_cons, List.length_nil, Option.toList_some, Option.toList_none, List.cons_append, List.nil_append, Value.category, true_and, k_0, k_1, k_2, k_3, k_4, false_implies, true_implies, reduceCtorEq, hM.1, hM.2.2.2.2.1, li_4, nI_clamp (show 4 + k < 2 ^ 31 by omega), hi, show 56 + 4 = 60 from rfl]
  have h3 : IM (fs_u σ2 60 (4 + k) (-1)) (chV V kp (nwN (V 4) k (-1))) (k0 kp + 1) nb := by
    refine IM_ch h1 hkp hs2 s1 s2 (fun a h1 => fs_u_ne h1) ?_
    funext j
    simp only [fs_u, nwN]
    by_cases q : j = 4 + k
    · rw [if_pos ⟨trivial, q⟩, if_pos q]
    · rw [if_neg (fun z => q z.2), if_neg q, hs2 60 j (by decide) (by omega)]
      exact congrFun h1.2.1 j
  have hT' := okT_ch (chV_2 V kp (nwN (V 4) k (-1))) hT
  refine ⟨by decide, ⟨_, rfl⟩, (v_cost (V := chV V kp (nwN (V 4) k (-1))) (σ := fs_u σ2 60 (4 + k) (-1)) hM hT' h3.1 (fun i _ => congrFun h3.2.1 i)).mono ?_⟩
  rintro r M' ⟨rfl, σ4, rfl, hs4⟩
  obtain ⟨h4, hs5, g0⟩ := cs_IM h3 hs4
  simp only [fi_const, fi_iload, fi_aload, fi_istore, fi_astore, fi_iinc, fi_bin, fi_div, fi_un, fi_dup, fi_dup2, fi_pop, fi_if, fi_cmp, fi_getf, fi_putf, fi_putr, fi_ald, fi_ast, fi_alen, fi_iret, fi_zret, fi_vret, fi_cut, fi_no, fi_s0, fi_s1, fi_s2, fi_s3, fi_s4, fi_v0, fi_v1, fi_v2, fi_v3, fi_v4, fi_v5, fi_n0, fi_n1, fi_n2, fi_mm, fi_stat, fi_alds, fi_tsw, List.getElem?_cons_zero, List.getElem?_cons_succ, List.set_cons_zero, List.set_cons_succ, List.length_cons, List.length_nil, Option.toList_some, Option.toList_none, List.cons_append, List.nil_append, Value.category, true_and, k_0, k_1, k_2, k_3, k_4, false_implies, true_implies, reduceCtorEq]
  refine ⟨congrArg _ (congrArg _ ?_), σ4, rfl, h4, fun a ha => ?_, ?_⟩
  · rw [h3.2.1]; exact coV_nw V nA nS kp k (-1)
  · rw [hs5 a ha, fs_u_ne (by omega)]
    funext b
    rw [hs2 a b (by omega) (by omega), th_lo 0 a ha]
  · rw [g0, fs_u_ne (by decide), hs2 56 0 (by decide) (by omega)]; simp [fs_u]
end PC5
