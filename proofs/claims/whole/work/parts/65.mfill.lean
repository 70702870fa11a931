/-! ===== fill of the reference ===== -/
def stN (V : Vt) (N : Nat → Int32) : Vt := fun a b => if a = 4 then N b else V a b
theorem stN_4 (V : Vt) (N : Nat → Int32) : stN V N 4 = N := by funext b; simp [stN]
theorem stN_ne (V : Vt) (N : Nat → Int32) {a : Nat} (h : a ≠ 4) : stN V N a = V a := by funext b; simp [stN, h]
theorem stN_V (V : Vt) : stN V (V 4) = V := by
  funext a b
  unfold stN
  split
  · rename_i h; rw [h]
  · rfl
section PD9
variable {g : fs_G} {d : Nat} {S : List fs_Sh} {fr : Bool} {σ : Nat → Nat → Int32} {τ : Nat → Nat → Int64} {V : Vt} {nL nA nS kp nb : Nat}
/-- the reference holds V, but that the row now is N -/
theorem IM_stN {σ' : Nat → Nat → Int32} {N N' : Nat → Int32} (h : IM σ (stN V N) kp nb) (hs : ∀ a, a ≠ 60 → a ≠ 61 → a ≠ 62 → σ' a = σ a) (h6 : σ' 60 = N') : IM σ' (stN V N') kp nb := by
  unfold IM at h ⊢
  rw [stN_4, stN_ne V N (by decide), stN_ne V N (by decide), stN_ne V N (by decide), stN_ne V N (by decide)] at h
  rw [stN_4, stN_ne V N' (by decide), stN_ne V N' (by decide), stN_ne V N' (by decide), stN_ne V N' (by decide), hs 58 (by decide) (by decide) (by decide), hs 63 (by decide) (by decide) (by decide), hs 57 (by decide) (by decide) (by decide), hs 56 (by decide) (by decide) (by decide)]
  exact ⟨h.1, h6, h.2.2⟩
/-- the middle of fill -/
def fmI (σ0 σ : Nat → Nat → Int32) (V : Vt) (kp nb nS : Nat) (N : Nat → Int32) : Prop := IM σ (stN V N) kp nb ∧ (∀ j, j < 18 → σ 62 j = V 4 j) ∧ σ 56 0 = 0 ∧ (∀ a, a < 56 ∨ 69 ≤ a → σ a = σ0 a) ∧ okN V nS N ∧ ∀ j, 18 ≤ j → N j = V 4 j
theorem fmI.put {σ0 : Nat → Nat → Int32} {N : Nat → Int32} {k e : Nat} (hT : okT V nL nA nS) (h : fmI σ0 σ V kp nb nS N) (hk : k < nS) (he : e < 12) (h0 : reN V N nS k e = 0) : fmI σ0 (fs_u σ 60 (4 + k) (nI e)) V kp nb nS (nwN N k (nI e)) := by
  obtain ⟨h1, h2, h3, h4, h5, h6⟩ := h
  have hn := hT.2.2.2.2.2.1
  refine ⟨IM_stN h1 (fun a w _ _ => fs_u_ne w) ?_, fun j hj => by rw [fs_u_ne (by decide)]; exact h2 j hj, by rw [fs_u_ne (by decide)]; exact h3, fun a ha => by rw [fs_u_ne (by omega)]; exact h4 a ha, okN_put2 hT h5 hk he h0, fun j hj => by unfold nwN; rw [if_neg (by omega)]; exact h6 j hj⟩
  funext j
  have e6 : σ 60 = N := by rw [h1.2.1, stN_4]
  simp only [fs_u, nwN]
  by_cases q : j = 4 + k
  · rw [if_pos ⟨trivial, q⟩, if_pos q]
  · rw [if_neg (fun z => q z.2), if_neg q, e6]
theorem l_mfill33 (hX : shX S) (hT : okT V nL nA nS) {σ0 : Nat → Nat → Int32} {k : Nat} (hk : k < nS) {Q : Option Value → fs_M → Prop} : ∀ m e N c σ, e + m = 12 → N (4 + k) = -1 → fmI σ0 σ V kp nb nS N → (∀ σ' z, fmI σ0 σ' V kp nb nS (if loD (reN V N nS k) m e = -1 then N else nwN N k (loD (reN V N nS k) m e)) → fs_R g m_X9_fill d (0, 0) 20 [.ref 56, .int (nI (if loD (reN V N nS k) m e = -1 then c else c + 1)), .int (nI (k + 1)), z] [] ((S, fr), σ', τ) Q) → fs_R g m_X9_fill d (0, 0) 33 [.ref 56, .int (nI c), .int (nI k), .int (nI e)] [] ((S, fr), σ, τ) Q
  | 0, e, N, c, σ, he, hN, h, K => by
    have hM := hX.m
    refine S_X9_fill_33 ?_
    simp only [T_X9_fill_33, fi_const, fi_iload, fi_aload, fi_istore, fi_astore, fi_iinc, fi_bin, fi_div, fi_un, fi_dup, fi_dup2, fi_pop, fi_if, fi_cmp, fi_getf, fi_putf, fi_putr, fi_ald, fi_ast, fi_alen, fi_iret, fi_zret, fi_vret, fi_cut, fi_no, fi_s0, fi_s1, fi_s2, fi_s3, fi_s4, fi_v0, fi_v1, fi_v2, fi_v3, fi_v4, fi_v5, fi_n0, fi_n1, fi_n2, fi_mm, fi_stat, fi_alds, fi_tsw, List.getElem?_cons_zero, List.getElem?_cons_succ, List.set_cons_zero, List.set_cons_succ, List.length_cons, List.length_nil, Option.toList_some, Option.toList_none, List.cons_append, List.nil_append, Value.category, true_and, k_0, k_1, k_2, k_3, k_4, false_implies, true_implies, reduceCtorEq, hM.1, nI_1]
    refine pk_le 12 e (fun _ => ?_) (fun z => by omega)
    have := K σ (.int (nI e)) (by simp only [loD]; rw [if_pos trivial]; exact h)
    simp only [loD] at this
    rw [if_pos trivial] at this
    exact this
  | m + 1, e, N, c, σ, he, hN, h, K => by
    have hM := hX.m
    have hn := hT.2.2.2.2.2.1
    have hi : vp_in (nI (4 + k)) 18 := vp_in_nI (by omega) (by decide)
    have e6 : σ 60 = N := by rw [h.1.2.1, stN_4]
    have e2 := stN_ne V N (show 2 ≠ 4 by decide)
    have e4 := stN_4 V N
    have hm : ¬ nI e = -1 := m1n (by omega)
    refine S_X9_fill_33 ?_
    simp only [T_X9_fill_33, fi_const, fi_iload, fi_aload, fi_istore, fi_astore, fi_iinc, fi_bin, fi_div, fi_un, fi_dup, fi_dup2, fi_pop, fi_if, fi_cmp, fi_getf, fi_putf, fi_putr, fi_ald, fi_ast, fi_alen, fi_iret, fi_zret, fi_vret, fi_cut, fi_no, fi_s0, fi_s1, fi_s2, fi_s3, fi_s4, fi_v0, fi_v1, fi_v2, fi_v3, fi_v4, fi_v5, fi_n0, fi_n1, fi_n2, fi_mm, fi_stat, fi_alds, fi_tsw, List.getElem?_cons_zero, List.getElem?_cons_succ, List.set_cons_zero, List.set_cons_succ, List.length_cons, List.length_nil, Option.toList_some, Option.toList_none, List.cons_append, List.nil_append, Value.category, true_and, k_0, k_1, k_2, k_3, k_4, false_implies, true_implies, reduceCtorEq, hM.1, nI_1, hM.2.2.2.2.1, li_4, nI_clamp (show 4 + k < 2 ^ 31 by omega), hi, show 56 + 4 = 60 from rfl, e6, hN]
    refine pk_le 12 e (fun z => by omega) (fun _ => ?_)
    refine ⟨⟨by decide, ⟨_, rfl⟩, (v_reason (e := e) hM (okT_ch e2 hT) h.1 hk).mono ?_⟩, fun z => absurd trivial z⟩
    rintro r M' ⟨rfl, rfl⟩
    rw [reV_N e2 e4]
    simp only [fi_const, fi_iload, fi_aload, fi_istore, fi_astore, fi_iinc, fi_bin, fi_div, fi_un, fi_dup, fi_dup2, fi_pop, fi_if, fi_cmp, fi_getf, fi_putf, fi_putr, fi_ald, fi_ast, fi_alen, fi_iret, fi_zret, fi_vret, fi_cut, fi_no, fi_s0, fi_s1, fi_s2, fi_s3, fi_s4, fi_v0, fi_v1, fi_v2, fi_v3, fi_v4, fi_v5, fi_n0, fi_n1, fi_n2, fi_mm, fi_stat, fi_alds, fi_tsw, List.getElem?_cons_zero, List.getElem?_cons_succ, List.set_cons_zero, List.set_cons_succ, List.length_cons, List.length_nil, Option.toList_some, Option.toList_none, List.cons_append, List.nil_append, Value.category, true_and, k_0, k_1, k_2, k_3, k_4, false_implies, true_implies, reduceCtorEq, hM.1, nI_1, hM.2.2.2.2.1, li_4, nI_clamp (show 4 + k < 2 ^ 31 by omega), hi, show 56 + 4 = 60 from rfl]
    refine ⟨fun q => ?_, fun q => ?_⟩
    · have el : loD (reN V N nS k) (m + 1) e = nI e := by simp only [loD]; rw [if_pos q]
      rw [el, if_neg hm, if_neg hm] at K
      have h2 := h.put hT hk (show e < 12 by omega) q
      have hx : fs_u σ 60 (4 + k) (nI e) 60 (4 + k) = nI e := u_eq ..
      refine S_X9_fill_33 ?_
      simp only [T_X9_fill_33, fi_const, fi_iload, fi_aload, fi_istore, fi_astore, fi_iinc, fi_bin, fi_div, fi_un, fi_dup, fi_dup2, fi_pop, fi_if, fi_cmp, fi_getf, fi_putf, fi_putr, fi_ald, fi_ast, fi_alen, fi_iret, fi_zret, fi_vret, fi_cut, fi_no, fi_s0, fi_s1, fi_s2, fi_s3, fi_s4, fi_v0, fi_v1, fi_v2, fi_v3, fi_v4, fi_v5, fi_n0, fi_n1, fi_n2, fi_mm, fi_stat, fi_alds, fi_tsw, List.getElem?_cons_zero, List.getElem?_cons_succ, List.set_cons_zero, List.set_cons_succ, List.length_cons, List.length_nil, Option.toList_some, Option.toList_none, List.cons_append, List.nil_append, Value.category, true_and, k_0, k_1, k_2, k_3, k_4, false_implies, true_implies, reduceCtorEq, hM.1, nI_1, hM.2.2.2.2.1, li_4, nI_clamp (show 4 + k < 2 ^ 31 by omega), hi, show 56 + 4 = 60 from rfl, hx]
      refine pk_le 12 (e + 1) (fun _ => K _ _ h2) (fun _ => ⟨fun z => absurd (hx.symm.trans z) hm, fun _ => K _ _ h2⟩)
    · have el : loD (reN V N nS k) (m + 1) e = loD (reN V N nS k) m (e + 1) := by simp only [loD]; rw [if_neg q]
      rw [el] at K
      exact l_mfill33 hX hT hk m (e + 1) N c σ (by omega) hN h K
theorem l_mfill (hX : shX S) (hV : okV V nL nA nS kp nb) {σ0 : Nat → Nat → Int32} : ∀ n k N c σ z, k + n = nS → c ≤ k → (c = 0 → N = V 4) → fmI σ0 σ V kp nb nS N → fs_R g m_X9_fill d (0, 0) 20 [.ref 56, .int (nI c), .int (nI k), z] [] ((S, fr), σ, τ) (fun r M' => r = some (.int (nI (flF V nS n k N c).2)) ∧ ∃ σ', M' = ((S, fr), σ', τ) ∧ IM σ' (fW V kp (flF V nS n k N c).1 (flF V nS n k N c).2) (fK kp (flF V nS n k N c).2) nb ∧ (∀ a, a < 56 ∨ 69 ≤ a → σ' a = σ0 a) ∧ σ' 56 0 = 0)
  | 0, k, N, c, σ, z, hk, hc, h0, h => by
    obtain ⟨hT, -, h9, hkp, -⟩ := id hV
    have hn := hT.2.2.2.2.2.1
    have hM := hX.m
    have e6 : σ 60 = N := by rw [h.1.2.1, stN_4]
    have e82 : σ 58 82 = nI nS := by rw [h.1.1, stN_ne V N (by decide)]; exact hT.2.2.1
    refine S_X9_fill_20 ?_
    simp only [T_X9_fill_20, fi_const, fi_iload, fi_aload, fi_istore, fi_astore, fi_iinc, fi_bin, fi_div, fi_un, fi_dup, fi_dup2, fi_pop, fi_if, fi_cmp, fi_getf, fi_putf, fi_putr, fi_ald, fi_ast, fi_alen, fi_iret, fi_zret, fi_vret, fi_cut, fi_no, fi_s0, fi_s1, fi_s2, fi_s3, fi_s4, fi_v0, fi_v1, fi_v2, fi_v3, fi_v4, fi_v5, fi_n0, fi_n1, fi_n2, fi_mm, fi_stat, fi_alds, fi_tsw, List.getElem?_cons_zero, List.getElem?_cons_succ, List.set_cons_zero, List.set_cons_succ, List.length_cons, List.length_nil, Option.toList_some, Option.toList_none, List.cons_append, List.nil_append, Value.category, true_and, k_0, k_1, k_2, k_3, k_4, false_implies, true_implies, reduceCtorEq, hM.1, hM.2.2.1, show 56 + 2 = 58 from rfl, k_82, e82, flF]
    refine ⟨vp_in_nI (n := 82) (by decide) (by decide), pk_le nS k (fun _ => ⟨fun q => ?_, fun q => ?_⟩) (fun z => by omega)⟩
    · have c0 : c = 0 := Decidable.byContradiction fun w => nI_ne0 (by omega) (by omega) q
      subst c0
      have hNV := h0 rfl
      subst hNV
      refine ⟨rfl, σ, rfl, ?_, h.2.2.2.1, h.2.2.1⟩
      have := h.1
      rw [stN_V] at this
      exact this
    · have c0 : ¬ c = 0 := fun w => q (by rw [w]; rfl)
      have w1 : fW V kp N c = chV V kp N := if_neg c0
      have w2 : fK kp c = k0 kp + 1 := if_neg c0
      rw [w1, w2]
      refine ⟨by decide, (c_copies (a := 60) (b := 61) (by decide) hM.2.2.2.2.1 hM.2.2.2.2.2.1).mono ?_⟩
      rintro r M' ⟨rfl, σ1, rfl, hs1, t1⟩
      simp only [fi_const, fi_iload, fi_aload, fi_istore, fi_astore, fi_iinc, fi_bin, fi_div, fi_un, fi_dup, fi_dup2, fi_pop, fi_if, fi_cmp, fi_getf, fi_putf, fi_putr, fi_ald, fi_ast, fi_alen, fi_iret, fi_zret, fi_vret, fi_cut, fi_no, fi_s0, fi_s1, fi_s2, fi_s3, fi_s4, fi_v0, fi_v1, fi_v2, fi_v3, fi_v4, fi_v5, fi_n0, fi_n1, fi_n2, fi_mm, fi_stat, fi_alds, fi_tsw, List.getElem?_cons_zero, List.getElem?_cons_succ, List.set_cons_zero, List.set_cons_succ, List.length_cons, List.length_nil, Option.toList_some, Option.toList_none, List.cons_append, List.nil_append, Value.category, true_and, k_0, k_1, k_2, k_3, k_4, false_implies, true_implies, reduceCtorEq, hM.1]
      refine ⟨by decide, (c_copies (a := 62) (b := 60) (by decide) hM.2.2.2.2.2.2.1 hM.2.2.2.2.1).mono ?_⟩
      rintro r M' ⟨rfl, σ2, rfl, hs2, t2⟩
      simp only [fi_const, fi_iload, fi_aload, fi_istore, fi_astore, fi_iinc, fi_bin, fi_div, fi_un, fi_dup, fi_dup2, fi_pop, fi_if, fi_cmp, fi_getf, fi_putf, fi_putr, fi_ald, fi_ast, fi_alen, fi_iret, fi_zret, fi_vret, fi_cut, fi_no, fi_s0, fi_s1, fi_s2, fi_s3, fi_s4, fi_v0, fi_v1, fi_v2, fi_v3, fi_v4, fi_v5, fi_n0, fi_n1, fi_n2, fi_mm, fi_stat, fi_alds, fi_tsw, List.getElem?_cons_zero, List.getElem?_cons_succ, List.set_cons_zero, List.set_cons_succ, List.length_cons, List.length_nil, Option.toList_some, Option.toList_none, List.cons_append, List.nil_append, Value.category, true_and, k_0, k_1, k_2, k_3, k_4, false_implies, true_implies, reduceCtorEq, hM.1]
      have e60 : σ2 60 = V 4 := by
        funext j
        rw [t2 j]
        by_cases q : j < 18
        · rw [if_pos q, hs1 62 (by decide)]; exact h.2.1 j q
        · rw [if_neg q, hs1 60 (by decide), e6]; exact h.2.2.2.2.2 j (by omega)
      have h2 : IM σ2 V kp nb := by
        have := IM_stN (N' := V 4) h.1 (σ' := σ2) (fun a w1 w2 _ => by rw [hs2 a w1, hs1 a w2]) e60
        rw [stN_V] at this
        exact this
      refine ⟨by decide, ⟨_, rfl⟩, (c_keepsM hM hkp (h2.2.2.2.2.2.1.trans h9)).mono ?_⟩
      rintro r M' ⟨rfl, σ3, rfl, hs3, s1, s2⟩
      simp only [fi_const, fi_iload, fi_aload, fi_istore, fi_astore, fi_iinc, fi_bin, fi_div, fi_un, fi_dup, fi_dup2, fi_pop, fi_if, fi_cmp, fi_getf, fi_putf, fi_putr, fi_ald, fi_ast, fi_alen, fi_iret, fi_zret, fi_vret, fi_cut, fi_no, fi_s0, fi_s1, fi_s2, fi_s3, fi_s4, fi_v0, fi_v1, fi_v2, fi_v3, fi_v4, fi_v5, fi_n0, fi_n1, fi_n2, fi_mm, fi_stat, fi_alds, fi_tsw, List.getElem?_cons_zero, List.getElem?_cons_succ, List.set_cons_zero, List.set_cons_succ, List.length_cons, List.length_nil, Option.toList_some, Option.toList_none, List.cons_append, List.nil_append, Value.category, true_and, k_0, k_1, k_2, k_3, k_4, false_implies, true_implies, reduceCtorEq, hM.1]
      refine ⟨by decide, (c_copies (a := 61) (b := 60) (by decide) hM.2.2.2.2.2.1 hM.2.2.2.2.1).mono ?_⟩
      rintro r M' ⟨rfl, σ4, rfl, hs4, t4⟩
      simp only [fi_const, fi_iload, fi_aload, fi_istore, fi_astore, fi_iinc, fi_bin, fi_div, fi_un, fi_dup, fi_dup2, fi_pop, fi_if, fi_cmp, fi_getf, fi_putf, fi_putr, fi_ald, fi_ast, fi_alen, fi_iret, fi_zret, fi_vret, fi_cut, fi_no, fi_s0, fi_s1, fi_s2, fi_s3, fi_s4, fi_v0, fi_v1, fi_v2, fi_v3, fi_v4, fi_v5, fi_n0, fi_n1, fi_n2, fi_mm, fi_stat, fi_alds, fi_tsw, List.getElem?_cons_zero, List.getElem?_cons_succ, List.set_cons_zero, List.set_cons_succ, List.length_cons, List.length_nil, Option.toList_some, Option.toList_none, List.cons_append, List.nil_append, Value.category, true_and, k_0, k_1, k_2, k_3, k_4, false_implies, true_implies, reduceCtorEq, hM.1]
      refine ⟨σ4, rfl, IM_ch h2 hkp hs3 s1 s2 hs4 ?_, fun a ha => ?_, ?_⟩
      · funext j
        rw [t4 j]
        by_cases q : j < 18
        · rw [if_pos q, hs3 61 j (by decide) (by omega), hs2 61 (by decide), t1 j, if_pos q, e6]
        · rw [if_neg q, hs3 60 j (by decide) (by omega), e60]; exact (h.2.2.2.2.2 j (by omega)).symm
      · rw [hs4 a (by omega)]
        funext b
        rw [hs3 a b (by omega) (by omega), hs2 a (by omega), hs1 a (by omega), h.2.2.2.1 a ha]
      · rw [hs4 56 (by decide), hs3 56 0 (by decide) (by omega), hs2 56 (by decide), hs1 56 (by decide)]; exact h.2.2.1
  | n + 1, k, N, c, σ, z, hk, hc, h0, h => by
    obtain ⟨hT, -, h9, hkp, -⟩ := id hV
    have hn := hT.2.2.2.2.2.1
    have hM := hX.m
    have hi : vp_in (nI (4 + k)) 18 := vp_in_nI (by omega) (by decide)
    have e6 : σ 60 = N := by rw [h.1.2.1, stN_4]
    have e82 : σ 58 82 = nI nS := by rw [h.1.1, stN_ne V N (by decide)]; exact hT.2.2.1
    refine S_X9_fill_20 ?_
    simp only [T_X9_fill_20, fi_const, fi_iload, fi_aload, fi_istore, fi_astore, fi_iinc, fi_bin, fi_div, fi_un, fi_dup, fi_dup2, fi_pop, fi_if, fi_cmp, fi_getf, fi_putf, fi_putr, fi_ald, fi_ast, fi_alen, fi_iret, fi_zret, fi_vret, fi_cut, fi_no, fi_s0, fi_s1, fi_s2, fi_s3, fi_s4, fi_v0, fi_v1, fi_v2, fi_v3, fi_v4, fi_v5, fi_n0, fi_n1, fi_n2, fi_mm, fi_stat, fi_alds, fi_tsw, List.getElem?_cons_zero, List.getElem?_cons_succ, List.set_cons_zero, List.set_cons_succ, List.length_cons, List.length_nil, Option.toList_some, Option.toList_none, List.cons_append, List.nil_append, Value.category, true_and, k_0, k_1, k_2, k_3, k_4, false_implies, true_implies, reduceCtorEq, hM.1, hM.2.2.1, show 56 + 2 = 58 from rfl, k_82, e82]
    refine ⟨vp_in_nI (n := 82) (by decide) (by decide), pk_le nS k (fun z => by omega) (fun _ => ?_)⟩
    by_cases q : N (4 + k) = -1
    · refine l_mfill33 hX hT (show k < nS by omega) 12 0 N c σ rfl q h (fun σ' z' h' => ?_)
      have e : flF V nS (n + 1) k N c = if loD (reN V N nS k) 12 0 = -1 then flF V nS n (k + 1) N c else flF V nS n (k + 1) (nwN N k (loD (reN V N nS k) 12 0)) (c + 1) := by
        simp only [flF]
        by_cases w : loD (reN V N nS k) 12 0 = -1
        · rw [if_neg (fun z => z.2 w), if_pos w]
        · rw [if_pos ⟨q, w⟩, if_neg w]
      rw [e]
      by_cases w : loD (reN V N nS k) 12 0 = -1
      · rw [if_pos w] at h' ⊢
        rw [if_pos w]
        exact l_mfill hX hV n (k + 1) N c σ' z' (by omega) (by omega) h0 h'
      · rw [if_neg w] at h' ⊢
        rw [if_neg w]
        exact l_mfill hX hV n (k + 1) _ (c + 1) σ' z' (by omega) (by omega) (fun q => by omega) h'
    · have e : flF V nS (n + 1) k N c = flF V nS n (k + 1) N c := by
        simp only [flF]
        rw [if_neg (fun z => q z.1)]
      rw [e]
      refine S_X9_fill_33 ?_
      simp only [T_X9_fill_33, fi_const, fi_iload, fi_aload, fi_istore, fi_astore, fi_iinc, fi_bin, fi_div, fi_un, fi_dup, fi_dup2, fi_pop, fi_if, fi_cmp, fi_getf, fi_putf, fi_putr, fi_ald, fi_ast, fi_alen, fi_iret, fi_zret, fi_vret, fi_cut, fi_no, fi_s0, fi_s1, fi_s2, fi_s3, fi_s4, fi_v0, fi_v1, fi_v2, fi_v3, fi_v4, fi_v5, fi_n0, fi_n1, fi_n2, fi_mm, fi_stat, fi_alds, fi_tsw, List.getElem?_cons_zero, List.getElem?_cons_succ, List.set_cons_zero, List.set_cons_succ, List.length_cons, List.length_nil, Option.toList_some, Option.toList_none, List.cons_append, List.nil_append, Value.category, true_and, k_0, k_1, k_2, k_3, k_4, false_implies, true_implies, reduceCtorEq, hM.1, nI_1, hM.2.2.2.2.1, li_4, nI_clamp (show 4 + k < 2 ^ 31 by omega), hi, show 56 + 4 = 60 from rfl, e6]
      refine ⟨fun z => absurd z (by decide), fun _ => ⟨fun z => absurd z q, fun _ => ?_⟩⟩
      exact l_mfill hX hV n (k + 1) N c σ _ (by omega) (by omega) h0 h
theorem n_fill (hX : shX S) (hV : okV V nL nA nS kp nb) : chgM g S fr τ V kp nb m_X9_fill [.ref 56] (nI (flF V nS nS 0 (V 4) 0).2) (fW V kp (flF V nS nS 0 (V 4) 0).1 (flF V nS nS 0 (V 4) 0).2) (fK kp (flF V nS nS 0 (V 4) 0).2) := by
  intro σ h
  have hM := hX.m
  have h1 := h.th 0
  refine fs_enterC (by decide) (by simp [fs_ok]) (Nat.le_of_ble_eq_true rfl) (fun d => S_X9_fill_0 ?_)
  show T_X9_fill_0 g d _ [.ref 56, .null, .null, .null] [] _
  simp only [T_X9_fill_0, fi_const, fi_iload, fi_aload, fi_istore, fi_astore, fi_iinc, fi_bin, fi_div, fi_un, fi_dup, fi_dup2, fi_pop, fi_if, fi_cmp, fi_getf, fi_putf, fi_putr, fi_ald, fi_ast, fi_alen, fi_iret, fi_zret, fi_vret, fi_cut, fi_no, fi_s0, fi_s1, fi_s2, fi_s3, fi_s4, fi_v0, fi_v1, fi_v2, fi_v3, fi_v4, fi_v5, fi_n0, fi_n1, fi_n2, fi_mm, fi_stat, fi_alds, fi_tsw, List.getElem?_cons_zero, List.getElem?_cons_succ, List.set_cons_zero, List.set_cons_succ, List.length_cons, List.length_nil, Option.toList_some, Option.toList_none, List.cons_append, List.nil_append, Value.category, true_and, k_0, k_1, k_2, k_3, k_4, false_implies, true_implies, reduceCtorEq]
  simp only [fi_const, fi_iload, fi_aload, fi_istore, fi_astore, fi_iinc, fi_bin, fi_div, fi_un, fi_dup, fi_dup2, fi_pop, fi_if, fi_cmp, fi_getf, fi_putf, fi_putr, fi_ald, fi_ast, fi_alen, fi_iret, fi_zret, fi_vret, fi_cut, fi_no, fi_s0, fi_s1, fi_s2, fi_s3, fi_s4, fi_v0, fi_v1, fi_v2, fi_v3, fi_v4, fi_v5, fi_n0, fi_n1, fi_n2, fi_mm, fi_stat, fi_alds, fi_tsw, List.getElem?_cons_zero, List.getElem?_cons_succ, List.set_cons_zero, List.set_cons_succ, List.length_cons, List.length_nil, Option.toList_some, Option.toList_none, List.cons_append, List.nil_append, Value.category, true_and, k_0, k_1, k_2, k_3, k_4, false_implies, true_implies, reduceCtorEq, hM.1]
  refine ⟨by decide, (c_copies (a := 60) (b := 62) (by decide) hM.2.2.2.2.1 hM.2.2.2.2.2.2.1).mono ?_⟩
  rintro r M' ⟨rfl, σ1, rfl, hs1, t1⟩
  simp only [fi_const, fi_iload, fi_aload, fi_istore, fi_astore, fi_iinc, fi_bin, fi_div, fi_un, fi_dup, fi_dup2, fi_pop, fi_if, fi_cmp, fi_getf, fi_putf, fi_putr, fi_ald, fi_ast, fi_alen, fi_iret, fi_zret, fi_vret, fi_cut, fi_no, fi_s0, fi_s1, fi_s2, fi_s3, fi_s4, fi_v0, fi_v1, fi_v2, fi_v3, fi_v4, fi_v5, fi_n0, fi_n1, fi_n2, fi_mm, fi_stat, fi_alds, fi_tsw, List.getElem?_cons_zero, List.getElem?_cons_succ, List.set_cons_zero, List.set_cons_succ, List.length_cons, List.length_nil, Option.toList_some, Option.toList_none, List.cons_append, List.nil_append, Value.category, true_and, k_0, k_1, k_2, k_3, k_4, false_implies, true_implies, reduceCtorEq, hM.1]
  refine l_mfill hX hV nS 0 (V 4) 0 σ1 .null (by omega) (Nat.le_refl _) (fun _ => rfl) ⟨?_, fun j hj => by rw [t1 j, if_pos hj]; exact congrFun h1.2.1 j, by rw [hs1 56 (by decide)]; exact u_eq .., fun a ha => by rw [hs1 a (by omega), th_lo 0 a ha], hV.2.1, fun _ _ => rfl⟩
  rw [stN_V]
  have := IM_stN (V := V) (N := V 4) (N' := V 4) (σ' := σ1) (by rw [stN_V]; exact h1) (fun a _ _ w => hs1 a w) (by rw [hs1 60 (by decide)]; exact h1.2.1)
  rw [stN_V] at this
  exact this
end PD9
