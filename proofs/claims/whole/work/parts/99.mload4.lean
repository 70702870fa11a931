/-! ===== load and feed of the reference ===== -/
section PRb
variable {g : fs_G} {d : Nat} {S : List fs_Sh} {fr : Bool} {σ : Nat → Nat → Int32} {τ : Nat → Nat → Int64} {Z : Zt} {V : Vt} {nL nA nS kp nb : Nat}
/-- until the loop over the statements -/
theorem l_ld0 (hX : shX S) (hV : okV V nL nA nS kp nb) (h : IM σ V kp nb) {n : Nat} (hn : n ≤ nb) {Q : Option Value → fs_M → Prop}
    (Ke : ∀ e, pTxt (bN V) n (n + 1) 0 (Z0 (V 2) (V 4)) 0 = .inl e → ∀ d σ' Z' k', MS σ' (bN V) n Z' k' (some e) → (∀ a c, a ≠ 59 → a ≠ 61 → ¬ ((a = 58 ∧ c < 83) ∨ (a = 60 ∧ c < 18) ∨ (a = 56 ∧ 10 ≤ c ∧ c ≤ 21 ∧ c ≠ 18)) → σ' a c = fs_u σ 56 0 0 a c) → (∀ j, j < 83 → σ' 59 j = V 2 j) → (∀ j, j < 18 → σ' 61 j = V 4 j) → fs_R g m_X9_load d (0, 0) 102 [.ref 56, .int (nI n)] [] ((S, fr), σ', τ) Q)
    (Kz : ∀ Z' c', pTxt (bN V) n (n + 1) 0 (Z0 (V 2) (V 4)) 0 = .inr (Z', c') → ∀ d σ' k', MS σ' (bN V) n Z' k' none → (∀ a c, a ≠ 59 → a ≠ 61 → ¬ ((a = 58 ∧ c < 83) ∨ (a = 60 ∧ c < 18) ∨ (a = 56 ∧ 10 ≤ c ∧ c ≤ 21 ∧ c ≠ 18)) → σ' a c = fs_u σ 56 0 0 a c) → σ' 56 19 = nI c' → fs_R g m_X9_load d (0, 0) 102 [.ref 56, .int (nI n)] [] ((S, fr), σ', τ) Q) : fs_Ct g m_X9_load [.ref 56, .int (nI n)] ((S, fr), σ, τ) Q := by
  have hM := hX.m
  have h1 := h.th 0
  have hb := hV.2.2.2.2.2.2.1
  have e2 : fs_u σ 56 0 0 56 2 = nI nb := by rw [h1.2.2.2.2.1]; exact hV.2.2.2.2.2.1
  refine fs_enterC (by decide) (by simp [fs_ok]) (Nat.le_of_ble_eq_true rfl) (fun d => S_X9_load_0 ?_)
  show T_X9_load_0 g d _ [.ref 56, .int (nI n)] [] _
  simp only [T_X9_load_0, fi_const, fi_iload, fi_aload, fi_istore, fi_astore, fi_iinc, fi_bin, fi_div, fi_un, fi_dup, fi_dup2, fi_pop, fi_if, fi_cmp, fi_getf, fi_putf, fi_putr, fi_ald, fi_ast, fi_alen, fi_iret, fi_zret, fi_vret, fi_cut, fi_no, fi_s0, fi_s1, fi_s2, fi_s3, fi_s4, fi_v0, fi_v1, fi_v2, fi_v3, fi_v4, fi_v5, fi_n0, fi_n1, fi_n2, fi_mm, fi_stat, fi_alds, fi_tsw, List.getElem?_cons_zero, List.getElem?_cons_succ, List.set_cons_zero, List.set_cons_succ, List.length_cons, List.length_nil, Option.toList_some, Option.toList_none, List.cons_append, List.nil_append, Value.category, true_and, k_0, k_1, k_2, k_3, k_4, false_implies, true_implies, reduceCtorEq]
  simp only [fi_const, fi_iload, fi_aload, fi_istore, fi_astore, fi_iinc, fi_bin, fi_div, fi_un, fi_dup, fi_dup2, fi_pop, fi_if, fi_cmp, fi_getf, fi_putf, fi_putr, fi_ald, fi_ast, fi_alen, fi_iret, fi_zret, fi_vret, fi_cut, fi_no, fi_s0, fi_s1, fi_s2, fi_s3, fi_s4, fi_v0, fi_v1, fi_v2, fi_v3, fi_v4, fi_v5, fi_n0, fi_n1, fi_n2, fi_mm, fi_stat, fi_alds, fi_tsw, List.getElem?_cons_zero, List.getElem?_cons_succ, List.set_cons_zero, List.set_cons_succ, List.length_cons, List.length_nil, Option.toList_some, Option.toList_none, List.cons_append, List.nil_append, Value.category, true_and, k_0, k_1, k_2, k_3, k_4, false_implies, true_implies, reduceCtorEq, hM.1, e2]
  refine ⟨fun z => absurd z (nI_pos (by omega)), fun _ => pk_le n nb (fun _ => ?_) (fun z => by omega)⟩
  refine ⟨by decide, (c_copiesL (a := 58) (b := 59) (L := 83) (by decide) (by decide) hM.2.2.1 hM.2.2.2.1).mono ?_⟩
  rintro r M' ⟨rfl, σ1, rfl, p1, p2⟩
  simp only [fi_const, fi_iload, fi_aload, fi_istore, fi_astore, fi_iinc, fi_bin, fi_div, fi_un, fi_dup, fi_dup2, fi_pop, fi_if, fi_cmp, fi_getf, fi_putf, fi_putr, fi_ald, fi_ast, fi_alen, fi_iret, fi_zret, fi_vret, fi_cut, fi_no, fi_s0, fi_s1, fi_s2, fi_s3, fi_s4, fi_v0, fi_v1, fi_v2, fi_v3, fi_v4, fi_v5, fi_n0, fi_n1, fi_n2, fi_mm, fi_stat, fi_alds, fi_tsw, List.getElem?_cons_zero, List.getElem?_cons_succ, List.set_cons_zero, List.set_cons_succ, List.length_cons, List.length_nil, Option.toList_some, Option.toList_none, List.cons_append, List.nil_append, Value.category, true_and, k_0, k_1, k_2, k_3, k_4, false_implies, true_implies, reduceCtorEq, hM.1]
  refine ⟨by decide, (c_copiesL (a := 60) (b := 61) (L := 18) (by decide) (by decide) hM.2.2.2.2.1 hM.2.2.2.2.2.1).mono ?_⟩
  rintro r M' ⟨rfl, σ2, rfl, q1, q2⟩
  simp only [fi_const, fi_iload, fi_aload, fi_istore, fi_astore, fi_iinc, fi_bin, fi_div, fi_un, fi_dup, fi_dup2, fi_pop, fi_if, fi_cmp, fi_getf, fi_putf, fi_putr, fi_ald, fi_ast, fi_alen, fi_iret, fi_zret, fi_vret, fi_cut, fi_no, fi_s0, fi_s1, fi_s2, fi_s3, fi_s4, fi_v0, fi_v1, fi_v2, fi_v3, fi_v4, fi_v5, fi_n0, fi_n1, fi_n2, fi_mm, fi_stat, fi_alds, fi_tsw, List.getElem?_cons_zero, List.getElem?_cons_succ, List.set_cons_zero, List.set_cons_succ, List.length_cons, List.length_nil, Option.toList_some, Option.toList_none, List.cons_append, List.nil_append, Value.category, true_and, k_0, k_1, k_2, k_3, k_4, false_implies, true_implies, reduceCtorEq, hM.1]
  refine ⟨by decide, ⟨_, rfl⟩, (c_newFilm hM).mono ?_⟩
  rintro r M' ⟨rfl, σ3, rfl, r1, r2, r3⟩
  have e58 : σ2 58 = V 2 := by rw [q1 58 (by decide), p1 58 (by decide)]; exact h1.1
  have e60 : σ2 60 = V 4 := by rw [q1 60 (by decide), p1 60 (by decide)]; exact h1.2.1
  rw [e58, e60] at r2 r3
  have e57 : ∀ i, i < nb → σ3 57 i = V 1 i := fun i hi => by rw [r1 57 (by decide) (by decide), q1 57 (by decide), p1 57 (by decide)]; exact h1.2.2.2.1 i hi
  have e59 : ∀ j, j < 83 → σ3 59 j = V 2 j := fun j hj => by rw [r1 59 (by decide) (by decide), q1 59 (by decide), p2 j, if_pos hj, h1.1]
  have e61 : ∀ j, j < 18 → σ3 61 j = V 4 j := fun j hj => by rw [r1 61 (by decide) (by decide), q2 j, if_pos hj, p1 60 (by decide), h1.2.1]
  have e56 : ∀ a c, a ≠ 59 → a ≠ 61 → ¬ ((a = 58 ∧ c < 83) ∨ (a = 60 ∧ c < 18)) → σ3 a c = fs_u σ 56 0 0 a c := by
    intro a c a1 a2 a3
    by_cases w : a = 58
    · subst w
      rw [r2, ← h1.1]
      show (if c < 83 then (0 : Int32) else fs_u σ 56 0 0 58 c) = _
      rw [if_neg (by omega)]
    · by_cases w2 : a = 60
      · subst w2
        rw [r3, ← h1.2.1]
        show (if c < 18 then ([24, 100, 50, 4] : List Int32).getD c (-1) else fs_u σ 56 0 0 60 c) = _
        rw [if_neg (by omega)]
      · rw [r1 a w w2, q1 a a2, p1 a a1]
  simp only [fi_const, fi_iload, fi_aload, fi_istore, fi_astore, fi_iinc, fi_bin, fi_div, fi_un, fi_dup, fi_dup2, fi_pop, fi_if, fi_cmp, fi_getf, fi_putf, fi_putr, fi_ald, fi_ast, fi_alen, fi_iret, fi_zret, fi_vret, fi_cut, fi_no, fi_s0, fi_s1, fi_s2, fi_s3, fi_s4, fi_v0, fi_v1, fi_v2, fi_v3, fi_v4, fi_v5, fi_n0, fi_n1, fi_n2, fi_mm, fi_stat, fi_alds, fi_tsw, List.getElem?_cons_zero, List.getElem?_cons_succ, List.set_cons_zero, List.set_cons_succ, List.length_cons, List.length_nil, Option.toList_some, Option.toList_none, List.cons_append, List.nil_append, Value.category, true_and, k_0, k_1, k_2, k_3, k_4, false_implies, true_implies, reduceCtorEq, hM.1]
  refine ⟨Or.inl trivial, by decide, ⟨_, rfl⟩, ?_⟩
  generalize hσ : fs_u (fs_u (fs_u (fs_u (fs_u (fs_u σ3 56 10 (nI n)) 56 11 0) 56 16 0) 56 20 0) 56 21 0) 56 19 0 = σ4
  have c4 : ∀ a, a ≠ 56 → σ4 a = σ3 a := fun a ha => by rw [← hσ, fs_u_ne ha, fs_u_ne ha, fs_u_ne ha, fs_u_ne ha, fs_u_ne ha, fs_u_ne ha]
  have hls : lsM σ3 σ4 := by
    rw [← hσ]
    exact (((((lsM.u (by decide) (by decide) (by decide)).tr (lsM.u (by decide) (by decide) (by decide))).tr (lsM.u (by decide) (by decide) (by decide))).tr (lsM.u (by decide) (by decide) (by decide))).tr (lsM.u (by decide) (by decide) (by decide))).tr (lsM.u (by decide) (by decide) (by decide))
  have k10 : σ4 56 10 = nI n := by rw [← hσ]; simp [fs_u]
  have k11 : σ4 56 11 = nI 0 := by rw [← hσ]; simp [fs_u]; rfl
  have k16 : σ4 56 16 = 0 := by rw [← hσ]; simp [fs_u]
  have k20 : σ4 56 20 = 0 := by rw [← hσ]; simp [fs_u]
  have k21 : σ4 56 21 = 0 := by rw [← hσ]; simp [fs_u]
  have k19 : σ4 56 19 = 0 := by rw [← hσ]; simp [fs_u]
  have hTX : TXM σ4 (bN V) n := ⟨k10, by omega, fun i hi => ⟨(bN_ok hV (by omega)).1, by rw [c4 57 (by decide), e57 i (by omega)]; exact (bN_ok hV (by omega)).2⟩⟩
  refine (c_next hM (Nat.zero_le _) hTX k11).mono ?_
  rintro r M' ⟨rfl, σ5, rfl, s1, s2⟩
  have hMS : MS σ5 (bN V) n (Z0 (V 2) (V 4)) 0 none := by
    refine ⟨hTX.keep s1, by rw [s1.ne (by decide), c4 58 (by decide)]; exact r2, Z0_ok _ _, fun _ => ⟨Nat.zero_le _, s2, by rw [s1.ne (by decide), c4 60 (by decide)]; exact r3, by rw [s1 56 20 (by omega)]; exact k20, by rw [s1 56 21 (by omega)]; exact k21, by rw [s1 56 16 (by omega)]; exact k16⟩, fun e z => by cases z⟩
  have hl5 : lsM σ3 σ5 := hls.tr (lsM.lo (tfM.tk s1).lo)
  have fin : ∀ σ', lsM σ3 σ' → (∀ a c, a ≠ 59 → a ≠ 61 → ¬ ((a = 58 ∧ c < 83) ∨ (a = 60 ∧ c < 18) ∨ (a = 56 ∧ 10 ≤ c ∧ c ≤ 21 ∧ c ≠ 18)) → σ' a c = fs_u σ 56 0 0 a c) := fun σ' hl a c a1 a2 a3 => by rw [hl a c a3, e56 a c a1 a2 (by omega)]
  refine l_ld80 hM σ3 (n + 1) 0 (Z0 (V 2) (V 4)) 0 σ5 (Nat.zero_le _) (by omega) (Nat.le_refl _) hMS hl5 (by rw [s1 56 19 (by omega)]; exact k19) (fun e he σ' Z' k' hm hl => ?_) (fun Z' c' he σ' k' hm hl hc => ?_)
  · exact Ke e he d σ' Z' k' hm (fin σ' hl) (fun j hj => by rw [hl 59 j (by omega)]; exact e59 j hj) (fun j hj => by rw [hl 61 j (by omega)]; exact e61 j hj)
  · exact Kz Z' c' he d σ' k' hm (fin σ' hl) hc
theorem n_load_z (hX : shX S) (hV : okV V nL nA nS kp nb) {n : Nat} (hn : n ≤ nb) {c : Nat} (he : pTxt (bN V) n (n + 1) 0 (Z0 (V 2) (V 4)) 0 = .inr (Z, c)) : chgN g S fr τ V kp nb m_X9_load [.ref 56, .int (nI n)] (nI c) (ldV V Z.1 Z.2.1) 0 0 := by
  intro σ h
  have hM := hX.m
  refine l_ld0 hX hV h hn (fun e he2 => by rw [he] at he2; cases he2) (fun Z' c' he2 d σ' k' hm hs h19 => ?_)
  rw [he] at he2
  cases he2
  have e16 := hm.e0.mpr rfl
  have e16' : fs_u σ' 56 2 0 56 16 = 0 := by simp only [fs_u]; rw [if_neg (by decide)]; exact e16
  refine S_X9_load_102 ?_
  simp only [T_X9_load_102, fi_const, fi_iload, fi_aload, fi_istore, fi_astore, fi_iinc, fi_bin, fi_div, fi_un, fi_dup, fi_dup2, fi_pop, fi_if, fi_cmp, fi_getf, fi_putf, fi_putr, fi_ald, fi_ast, fi_alen, fi_iret, fi_zret, fi_vret, fi_cut, fi_no, fi_s0, fi_s1, fi_s2, fi_s3, fi_s4, fi_v0, fi_v1, fi_v2, fi_v3, fi_v4, fi_v5, fi_n0, fi_n1, fi_n2, fi_mm, fi_stat, fi_alds, fi_tsw, List.getElem?_cons_zero, List.getElem?_cons_succ, List.set_cons_zero, List.set_cons_succ, List.length_cons, List.length_nil, Option.toList_some, Option.toList_none, List.cons_append, List.nil_append, Value.category, true_and, k_0, k_1, k_2, k_3, k_4, false_implies, true_implies, reduceCtorEq, hM.1, e16']
  refine ⟨?_, fun w => absurd trivial w⟩
  have e16'' : fs_u (fs_u σ' 56 2 0) 56 18 (-1) 56 16 = 0 := by simp only [fs_u]; rw [if_neg (by decide), if_neg (by decide)]; exact e16
  have e19 : fs_u (fs_u (fs_u σ' 56 2 0) 56 18 (-1)) 56 9 0 56 19 = nI c := by simp only [fs_u]; rw [if_neg (by decide), if_neg (by decide), if_neg (by decide)]; exact h19
  refine S_X9_load_123 ?_
  simp only [T_X9_load_123, fi_const, fi_iload, fi_aload, fi_istore, fi_astore, fi_iinc, fi_bin, fi_div, fi_un, fi_dup, fi_dup2, fi_pop, fi_if, fi_cmp, fi_getf, fi_putf, fi_putr, fi_ald, fi_ast, fi_alen, fi_iret, fi_zret, fi_vret, fi_cut, fi_no, fi_s0, fi_s1, fi_s2, fi_s3, fi_s4, fi_v0, fi_v1, fi_v2, fi_v3, fi_v4, fi_v5, fi_n0, fi_n1, fi_n2, fi_mm, fi_stat, fi_alds, fi_tsw, List.getElem?_cons_zero, List.getElem?_cons_succ, List.set_cons_zero, List.set_cons_succ, List.length_cons, List.length_nil, Option.toList_some, Option.toList_none, List.cons_append, List.nil_append, Value.category, true_and, k_0, k_1, k_2, k_3, k_4, false_implies, true_implies, reduceCtorEq, hM.1, e16'', e19]
  refine ⟨?_, fun w => absurd trivial w⟩
  have hne : ∀ a, a ≠ 56 → fs_u (fs_u (fs_u σ' 56 2 0) 56 18 (-1)) 56 9 0 a = σ' a := fun a ha => by rw [fs_u_ne ha, fs_u_ne ha, fs_u_ne ha]
  refine ⟨_, rfl, ⟨?_, ?_, fun b hb => absurd hb (by omega), fun i hi => absurd hi (Nat.not_lt_zero i), ?_, ?_, ?_⟩, fun a ha => ?_, ?_⟩
  · rw [hne 58 (by decide), ldV_2]; exact hm.2.1
  · rw [hne 60 (by decide), ldV_4]; exact (hm.2.2.2.1 rfl).2.2.1
  · simp [fs_u, ldV]
  · simp [fs_u, ldV]
  · simp [fs_u, ldV]
  · rw [hne a (by omega)]
    funext x
    rw [hs a x (by omega) (by omega) (by omega), fs_u_ne (by omega)]
  · simp only [fs_u]
    rw [if_neg (by decide), if_neg (by decide), if_neg (by decide), hs 56 0 (by decide) (by decide) (by omega), u_eq]
theorem n_load_e (hX : shX S) (hV : okV V nL nA nS kp nb) {n : Nat} (hn : n ≤ nb) {e : Er} (he : pTxt (bN V) n (n + 1) 0 (Z0 (V 2) (V 4)) 0 = .inl e) : chgN g S fr τ V kp nb m_X9_load [.ref 56, .int (nI n)] e.1 (leV V e.2) kp 0 := by
  intro σ h
  have hM := hX.m
  refine l_ld0 hX hV h hn (fun e' he2 d σ' Z' k' hm hs h59 h61 => ?_) (fun Z' c' he2 => by rw [he] at he2; cases he2)
  rw [he] at he2
  cases he2
  obtain ⟨b1, b2, b3⟩ := hm.2.2.2.2 e rfl
  have hne0 := (erC_neg b3).2
  have e16' : fs_u σ' 56 2 0 56 16 = e.1 := by simp only [fs_u]; rw [if_neg (by decide)]; exact b1
  have e17' : fs_u σ' 56 2 0 56 17 = nI e.2 := by simp only [fs_u]; rw [if_neg (by decide)]; exact b2
  refine S_X9_load_102 ?_
  simp only [T_X9_load_102, fi_const, fi_iload, fi_aload, fi_istore, fi_astore, fi_iinc, fi_bin, fi_div, fi_un, fi_dup, fi_dup2, fi_pop, fi_if, fi_cmp, fi_getf, fi_putf, fi_putr, fi_ald, fi_ast, fi_alen, fi_iret, fi_zret, fi_vret, fi_cut, fi_no, fi_s0, fi_s1, fi_s2, fi_s3, fi_s4, fi_v0, fi_v1, fi_v2, fi_v3, fi_v4, fi_v5, fi_n0, fi_n1, fi_n2, fi_mm, fi_stat, fi_alds, fi_tsw, List.getElem?_cons_zero, List.getElem?_cons_succ, List.set_cons_zero, List.set_cons_succ, List.length_cons, List.length_nil, Option.toList_some, Option.toList_none, List.cons_append, List.nil_append, Value.category, true_and, k_0, k_1, k_2, k_3, k_4, false_implies, true_implies, reduceCtorEq, hM.1, e16', e17']
  refine ⟨fun w => absurd w hne0, fun _ => ?_⟩
  have e16'' : fs_u (fs_u σ' 56 2 0) 56 18 (nI e.2) 56 16 = e.1 := by simp only [fs_u]; rw [if_neg (by decide), if_neg (by decide)]; exact b1
  refine S_X9_load_123 ?_
  simp only [T_X9_load_123, fi_const, fi_iload, fi_aload, fi_istore, fi_astore, fi_iinc, fi_bin, fi_div, fi_un, fi_dup, fi_dup2, fi_pop, fi_if, fi_cmp, fi_getf, fi_putf, fi_putr, fi_ald, fi_ast, fi_alen, fi_iret, fi_zret, fi_vret, fi_cut, fi_no, fi_s0, fi_s1, fi_s2, fi_s3, fi_s4, fi_v0, fi_v1, fi_v2, fi_v3, fi_v4, fi_v5, fi_n0, fi_n1, fi_n2, fi_mm, fi_stat, fi_alds, fi_tsw, List.getElem?_cons_zero, List.getElem?_cons_succ, List.set_cons_zero, List.set_cons_succ, List.length_cons, List.length_nil, Option.toList_some, Option.toList_none, List.cons_append, List.nil_append, Value.category, true_and, k_0, k_1, k_2, k_3, k_4, false_implies, true_implies, reduceCtorEq, hM.1, e16'']
  refine ⟨fun w => absurd w hne0, fun _ => ?_⟩
  refine ⟨by decide, (c_copiesL (a := 59) (b := 58) (L := 83) (by decide) (by decide) hM.2.2.2.1 hM.2.2.1).mono ?_⟩
  rintro r M' ⟨rfl, σ1, rfl, p1, p2⟩
  simp only [fi_const, fi_iload, fi_aload, fi_istore, fi_astore, fi_iinc, fi_bin, fi_div, fi_un, fi_dup, fi_dup2, fi_pop, fi_if, fi_cmp, fi_getf, fi_putf, fi_putr, fi_ald, fi_ast, fi_alen, fi_iret, fi_zret, fi_vret, fi_cut, fi_no, fi_s0, fi_s1, fi_s2, fi_s3, fi_s4, fi_v0, fi_v1, fi_v2, fi_v3, fi_v4, fi_v5, fi_n0, fi_n1, fi_n2, fi_mm, fi_stat, fi_alds, fi_tsw, List.getElem?_cons_zero, List.getElem?_cons_succ, List.set_cons_zero, List.set_cons_succ, List.length_cons, List.length_nil, Option.toList_some, Option.toList_none, List.cons_append, List.nil_append, Value.category, true_and, k_0, k_1, k_2, k_3, k_4, false_implies, true_implies, reduceCtorEq, hM.1]
  refine ⟨by decide, (c_copiesL (a := 61) (b := 60) (L := 18) (by decide) (by decide) hM.2.2.2.2.2.1 hM.2.2.2.2.1).mono ?_⟩
  rintro r M' ⟨rfl, σ2, rfl, q1, q2⟩
  have hne : ∀ a, a ≠ 56 → fs_u (fs_u σ' 56 2 0) 56 18 (nI e.2) a = σ' a := fun a ha => by rw [fs_u_ne ha, fs_u_ne ha]
  have k56 : σ2 56 = fs_u (fs_u σ' 56 2 0) 56 18 (nI e.2) 56 := by rw [q1 56 (by decide), p1 56 (by decide)]
  have k16 : σ2 56 16 = e.1 := by rw [k56]; exact e16''
  have kr : ∀ a, a ≠ 56 → a ≠ 58 → a ≠ 60 → σ2 a = σ' a := fun a a1 a2 a3 => by rw [q1 a a3, p1 a a2, hne a a1]
  simp only [fi_const, fi_iload, fi_aload, fi_istore, fi_astore, fi_iinc, fi_bin, fi_div, fi_un, fi_dup, fi_dup2, fi_pop, fi_if, fi_cmp, fi_getf, fi_putf, fi_putr, fi_ald, fi_ast, fi_alen, fi_iret, fi_zret, fi_vret, fi_cut, fi_no, fi_s0, fi_s1, fi_s2, fi_s3, fi_s4, fi_v0, fi_v1, fi_v2, fi_v3, fi_v4, fi_v5, fi_n0, fi_n1, fi_n2, fi_mm, fi_stat, fi_alds, fi_tsw, List.getElem?_cons_zero, List.getElem?_cons_succ, List.set_cons_zero, List.set_cons_succ, List.length_cons, List.length_nil, Option.toList_some, Option.toList_none, List.cons_append, List.nil_append, Value.category, true_and, k_0, k_1, k_2, k_3, k_4, false_implies, true_implies, reduceCtorEq, hM.1, k16]
  refine ⟨σ2, rfl, ⟨?_, ?_, fun c hc => ?_, fun i hi => absurd hi (Nat.not_lt_zero i), ?_, ?_, ?_⟩, fun a ha => ?_, ?_⟩
  · rw [leV_ne V e.2 (by decide)]
    funext j
    rw [q1 58 (by decide), p2 j, hne 59 (by decide), hne 58 (by decide)]
    by_cases w : j < 83
    · rw [if_pos w]; exact h59 j w
    · rw [if_neg w, hs 58 j (by decide) (by decide) (by omega), fs_u_ne (by decide), h.1]
  · rw [leV_ne V e.2 (by decide)]
    funext j
    rw [q2 j, p1 61 (by decide), p1 60 (by decide), hne 61 (by decide), hne 60 (by decide)]
    by_cases w : j < 18
    · rw [if_pos w]; exact h61 j w
    · rw [if_neg w, hs 60 j (by decide) (by decide) (by omega), fs_u_ne (by decide), h.2.1]
  · rw [leV_ne V e.2 (by decide), kr 63 (by decide) (by decide) (by decide), hs 63 c (by decide) (by decide) (by omega), fs_u_ne (by decide)]
    exact h.2.2.1 c hc
  · rw [k56]; simp [fs_u, leV]
  · rw [k56]
    have : fs_u (fs_u σ' 56 2 0) 56 18 (nI e.2) 56 9 = σ' 56 9 := by simp only [fs_u]; rw [if_neg (by decide), if_neg (by decide)]
    rw [this, hs 56 9 (by decide) (by decide) (by omega)]
    simp only [fs_u, leV]
    rw [if_neg (by decide), if_neg (by decide), if_neg (by decide)]
    exact h.2.2.2.2.2.1
  · rw [k56, u_eq]; simp [leV]
  · rw [kr a (by omega) (by omega) (by omega)]
    funext x
    rw [hs a x (by omega) (by omega) (by omega), fs_u_ne (by omega)]
  · rw [k56]
    simp only [fs_u]
    rw [if_neg (by decide), if_neg (by decide), hs 56 0 (by decide) (by decide) (by omega), u_eq]
end PRb
