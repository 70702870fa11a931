/-! ===== fill of the class ===== -/
def fW (V : Vt) (kp : Nat) (N : Nat → Int32) (c : Nat) : Vt := if c = 0 then V else chV V kp N
def fK (kp c : Nat) : Nat := if c = 0 then kp else k0 kp + 1
theorem fW_2 (V : Vt) (kp : Nat) (N : Nat → Int32) (c : Nat) : fW V kp N c 2 = V 2 := by
  unfold fW; split
  · rfl
  · exact chV_2 V kp N
theorem fW_4 {V : Vt} {kp : Nat} {N : Nat → Int32} {c : Nat} (h : c = 0 → N = V 4) : fW V kp N c 4 = N := by
  unfold fW; split
  · exact (h (by assumption)).symm
  · exact chV_4 V kp N
section PD8
variable {g : fs_G} {d : Nat} {S : List fs_Sh} {fr : Bool} {σ : Nat → Nat → Int32} {τ : Nat → Nat → Int64} {V : Vt} {nL nA nS kp nb : Nat}
theorem l_fill (hX : shX S) (hS : shS S) (hV : okV V nL nA nS kp nb) : ∀ n k N c σ z, k + n = nS → c ≤ k → (c = 0 → N = V 4) → okN V nS N → IC0 σ (fW V kp N c) nL nA nS (fK kp c) nb → fs_R g m_X8_fill d (0, 0) 4 [.ref 0, .int (nI c), .int (nI k), z] [] ((S, fr), σ, τ) (fun r M' => r = some (.int (nI (flF V nS n k N c).2)) ∧ ∃ σ', M' = ((S, fr), σ', τ) ∧ IC σ' (fW V kp (flF V nS n k N c).1 (flF V nS n k N c).2) nL nA nS (fK kp (flF V nS n k N c).2) nb ∧ ∀ a, 56 ≤ a → σ' a = σ a)
  | 0, k, N, c, σ, z, hk, hc, h0, hN, h => by
    obtain ⟨hT, -, -, hkp, -⟩ := id hV
    have hn := hT.2.2.2.2.2.1
    have hP := hX.2.2.1
    have e2 := fW_2 V kp N c
    have e4 := fW_4 (kp := kp) h0
    refine S_X8_fill_4 ?_
    simp only [T_X8_fill_4, fi_const, fi_iload, fi_aload, fi_istore, fi_astore, fi_iinc, fi_bin, fi_div, fi_un, fi_dup, fi_dup2, fi_pop, fi_if, fi_cmp, fi_getf, fi_putf, fi_putr, fi_ald, fi_ast, fi_alen, fi_iret, fi_zret, fi_vret, fi_cut, fi_no, fi_s0, fi_s1, fi_s2, fi_s3, fi_s4, fi_v0, fi_v1, fi_v2, fi_v3, fi_v4, fi_v5, fi_n0, fi_n1, fi_n2, fi_mm, fi_stat, fi_alds, fi_tsw, List.getElem?_cons_zero, List.getElem?_cons_succ, List.set_cons_zero, List.set_cons_succ, List.length_cons, List.length_nil, Option.toList_some, Option.toList_none, List.cons_append, List.nil_append, Value.category, true_and, k_0, k_1, k_2, k_3, k_4, false_implies, true_implies, reduceCtorEq, hX.1, hP.1, h.1.2.2]
    refine pk_le nS k (fun _ => ?_) (fun z => by omega)
    refine ⟨by decide, ⟨_, rfl⟩, (c_refresh hX hS (okT_ch e2 hT) (by rw [e4]; exact okN_ch e2 hN) h).mono ?_⟩
    rintro r M' ⟨rfl, σ', rfl, h1, hs⟩
    simp only [fi_const, fi_iload, fi_aload, fi_istore, fi_astore, fi_iinc, fi_bin, fi_div, fi_un, fi_dup, fi_dup2, fi_pop, fi_if, fi_cmp, fi_getf, fi_putf, fi_putr, fi_ald, fi_ast, fi_alen, fi_iret, fi_zret, fi_vret, fi_cut, fi_no, fi_s0, fi_s1, fi_s2, fi_s3, fi_s4, fi_v0, fi_v1, fi_v2, fi_v3, fi_v4, fi_v5, fi_n0, fi_n1, fi_n2, fi_mm, fi_stat, fi_alds, fi_tsw, List.getElem?_cons_zero, List.getElem?_cons_succ, List.set_cons_zero, List.set_cons_succ, List.length_cons, List.length_nil, Option.toList_some, Option.toList_none, List.cons_append, List.nil_append, Value.category, true_and, k_0, k_1, k_2, k_3, k_4, false_implies, true_implies, reduceCtorEq]
    exact ⟨rfl, σ', rfl, h1, hs⟩
  | n + 1, k, N, c, σ, z, hk, hc, h0, hN, h => by
    obtain ⟨hT, -, -, hkp, -⟩ := id hV
    have hn := hT.2.2.2.2.2.1
    have hP := hX.2.2.1
    have hH := hX.2.2.2.2.2.1
    have e2 := fW_2 V kp N c
    have e4 := fW_4 (kp := kp) h0
    have hi : vp_in (nI k) 14 := vp_in_nI (by omega) (by decide)
    have hd : σ 12 k = N (4 + k) := by rw [h.2.2.2.2.1 k (by omega)]; show fW V kp N c 4 (4 + k) = _; rw [e4]
    have go : ∀ (σ1 : Nat → Nat → Int32) (x : Int32) (z : Value), (x = -1 ∨ ∃ f, f < 12 ∧ x = nI f ∧ reN V N nS k f = 0) → IC0 σ1 (fW V kp N c) nL nA nS (fK kp c) nb → fs_R g m_X8_fill d (0, 0) 37 [.ref 0, .int (nI c), .int (nI k), z] [.int x] ((S, fr), σ1, τ) (fun r M' => r = some (.int (nI (if x = -1 then flF V nS n (k + 1) N c else flF V nS n (k + 1) (nwN N k x) (c + 1)).2)) ∧ ∃ σ', M' = ((S, fr), σ', τ) ∧ IC σ' (fW V kp (if x = -1 then flF V nS n (k + 1) N c else flF V nS n (k + 1) (nwN N k x) (c + 1)).1 (if x = -1 then flF V nS n (k + 1) N c else flF V nS n (k + 1) (nwN N k x) (c + 1)).2) nL nA nS (fK kp (if x = -1 then flF V nS n (k + 1) N c else flF V nS n (k + 1) (nwN N k x) (c + 1)).2) nb ∧ ∀ a, 56 ≤ a → σ' a = σ1 a) := by
      intro σ1 x z hx h1
      have hi2 : vp_in (nI k) 14 := vp_in_nI (by omega) (by decide)
      have st : ∀ σ2, IC0 (fs_u σ2 12 k x) (chV V kp (nwN N k x)) nL nA nS (k0 kp + 1) nb → (∀ a, 56 ≤ a → σ2 a = σ1 a) → ¬ x = -1 → fs_R g m_X8_fill d (0, 0) 58 [.ref 0, .int (nI c), .int (nI k), .int x] [] ((S, fr), σ2, τ) (fun r M' => r = some (.int (nI (flF V nS n (k + 1) (nwN N k x) (c + 1)).2)) ∧ ∃ σ', M' = ((S, fr), σ', τ) ∧ IC σ' (fW V kp (flF V nS n (k + 1) (nwN N k x) (c + 1)).1 (flF V nS n (k + 1) (nwN N k x) (c + 1)).2) nL nA nS (fK kp (flF V nS n (k + 1) (nwN N k x) (c + 1)).2) nb ∧ ∀ a, 56 ≤ a → σ' a = σ1 a) := by
        intro σ2 h2 hs2 hne
        refine S_X8_fill_58 ?_
        simp only [T_X8_fill_58, fi_const, fi_iload, fi_aload, fi_istore, fi_astore, fi_iinc, fi_bin, fi_div, fi_un, fi_dup, fi_dup2, fi_pop, fi_if, fi_cmp, fi_getf, fi_putf, fi_putr, fi_ald, fi_ast, fi_alen, fi_iret, fi_zret, fi_vret, fi_cut, fi_no, fi_s0, fi_s1, fi_s2, fi_s3, fi_s4, fi_v0, fi_v1, fi_v2, fi_v3, fi_v4, fi_v5, fi_n0, fi_n1, fi_n2, fi_mm, fi_stat, fi_alds, fi_tsw, List.getElem?_cons_zero, List.getElem?_cons_succ, List.set_cons_zero, List.set_cons_succ, List.length_cons, List.length_nil, Option.toList_some, Option.toList_none, List.cons_append, List.nil_append, Value.category, true_and, k_0, k_1, k_2, k_3, k_4, false_implies, true_implies, reduceCtorEq, hX.1, hP.1, hP.2.2.2.2.2.2.2.2.2.2.1, nI_clamp (show k < 2 ^ 31 by omega), hi2, show 2 + 10 = 12 from rfl, nI_1]
        have hok : okN V nS (nwN N k x) := by
          rcases hx with q | ⟨f, hf, rfl, q⟩
          · exact absurd q hne
          · exact okN_put2 hT hN (show k < nS by omega) hf q
        refine fs_R_mono (l_fill hX hS hV n (k + 1) (nwN N k x) (c + 1) (fs_u σ2 12 k x) (.int x) (by omega) (by omega) (fun q => by omega) hok ?_) ?_
        · unfold fW fK; rw [if_neg (by omega), if_neg (by omega)]; exact h2
        rintro r M' ⟨rfl, σ3, rfl, h3, hs3⟩
        exact ⟨rfl, σ3, rfl, h3, fun a ha => by rw [hs3 a ha, fs_u_ne (by omega), hs2 a ha]⟩
      refine S_X8_fill_37 ?_
      simp only [T_X8_fill_37, fi_const, fi_iload, fi_aload, fi_istore, fi_astore, fi_iinc, fi_bin, fi_div, fi_un, fi_dup, fi_dup2, fi_pop, fi_if, fi_cmp, fi_getf, fi_putf, fi_putr, fi_ald, fi_ast, fi_alen, fi_iret, fi_zret, fi_vret, fi_cut, fi_no, fi_s0, fi_s1, fi_s2, fi_s3, fi_s4, fi_v0, fi_v1, fi_v2, fi_v3, fi_v4, fi_v5, fi_n0, fi_n1, fi_n2, fi_mm, fi_stat, fi_alds, fi_tsw, List.getElem?_cons_zero, List.getElem?_cons_succ, List.set_cons_zero, List.set_cons_succ, List.length_cons, List.length_nil, Option.toList_some, Option.toList_none, List.cons_append, List.nil_append, Value.category, true_and, k_0, k_1, k_2, k_3, k_4, false_implies, true_implies, reduceCtorEq, hX.1, hP.1, nI_1]
      refine ⟨fun q => ?_, fun q => ⟨fun q2 => ?_, fun q2 => ?_⟩⟩
      · rw [if_pos q]
        exact l_fill hX hS hV n (k + 1) N c σ1 (.int x) (by omega) (by omega) h0 hN h1
      · have c0 : c = 0 := Decidable.byContradiction fun w => nI_ne0 (by omega) (by omega) q2
        subst c0
        have hNV := h0 rfl
        subst hNV
        have h1' : IC0 σ1 V nL nA nS kp nb := h1
        rw [if_neg q]
        refine ⟨by decide, ⟨_, hH⟩, (c_keep hX hkp h1'.2.2.2.2.2.2.1).mono ?_⟩
        rintro r M' ⟨rfl, σ2, rfl, hs2, s1, s2⟩
        simp only [fi_const, fi_iload, fi_aload, fi_istore, fi_astore, fi_iinc, fi_bin, fi_div, fi_un, fi_dup, fi_dup2, fi_pop, fi_if, fi_cmp, fi_getf, fi_putf, fi_putr, fi_ald, fi_ast, fi_alen, fi_iret, fi_zret, fi_vret, fi_cut, fi_no, fi_s0, fi_s1, fi_s2, fi_s3, fi_s4, fi_v0, fi_v1, fi_v2, fi_v3, fi_v4, fi_v5, fi_n0, fi_n1, fi_n2, fi_mm, fi_stat, fi_alds, fi_tsw, List.getElem?_cons_zero, List.getElem?_cons_succ, List.set_cons_zero, List.set_cons_succ, List.length_cons, List.length_nil, Option.toList_some, Option.toList_none, List.cons_append, List.nil_append, Value.category, true_and, k_0, k_1, k_2, k_3, k_4, false_implies, true_implies, reduceCtorEq]
        refine st σ2 ?_ (fun a ha => hs2 a (by omega)) q
        refine IC0_ch0 h1' hkp hs2 s1 s2 (fun a _ w _ => fs_u_ne w) (fun j hj => ?_) (fun i hi => ?_)
        · simp only [fs_u, nwN]
          by_cases w : j = k
          · rw [if_pos ⟨trivial, w⟩, if_pos (by omega)]
          · rw [if_neg (fun z => w z.2), if_neg (by omega), hs2 12 (by omega)]
            exact h1'.2.2.2.2.1 j hj
        · rw [fs_u_ne (by decide), hs2 13 (by omega)]
          simp only [nwN]
          rw [if_neg (by omega)]
          exact h1'.2.2.2.2.2.1 i hi
      · have c0 : ¬ c = 0 := fun w => q2 (by rw [w]; rfl)
        rw [if_neg q]
        refine st σ1 ?_ (fun _ _ => rfl) q
        unfold fW fK at h1
        rw [if_neg c0, if_neg c0] at h1
        exact IC0_more h1
    refine S_X8_fill_4 ?_
    simp only [T_X8_fill_4, fi_const, fi_iload, fi_aload, fi_istore, fi_astore, fi_iinc, fi_bin, fi_div, fi_un, fi_dup, fi_dup2, fi_pop, fi_if, fi_cmp, fi_getf, fi_putf, fi_putr, fi_ald, fi_ast, fi_alen, fi_iret, fi_zret, fi_vret, fi_cut, fi_no, fi_s0, fi_s1, fi_s2, fi_s3, fi_s4, fi_v0, fi_v1, fi_v2, fi_v3, fi_v4, fi_v5, fi_n0, fi_n1, fi_n2, fi_mm, fi_stat, fi_alds, fi_tsw, List.getElem?_cons_zero, List.getElem?_cons_succ, List.set_cons_zero, List.set_cons_succ, List.length_cons, List.length_nil, Option.toList_some, Option.toList_none, List.cons_append, List.nil_append, Value.category, true_and, k_0, k_1, k_2, k_3, k_4, false_implies, true_implies, reduceCtorEq, hX.1, hP.1, h.1.2.2, hP.2.2.2.2.2.2.2.2.2.2.1, nI_clamp (show k < 2 ^ 31 by omega), hi, show 2 + 10 = 12 from rfl, hd]
    refine pk_le nS k (fun z => by omega) (fun _ => ⟨fun q => ?_, fun q => ?_⟩)
    · refine ⟨by decide, ⟨_, rfl⟩, (c_lowest hX (okT_ch e2 hT) (by rw [e4]; exact okN_ch e2 hN) h (show k < nS by omega)).mono ?_⟩
      rintro r M' ⟨rfl, σ1, rfl, hs1⟩
      rw [reV_N e2 e4]
      simp only [fi_const, fi_iload, fi_aload, fi_istore, fi_astore, fi_iinc, fi_bin, fi_div, fi_un, fi_dup, fi_dup2, fi_pop, fi_if, fi_cmp, fi_getf, fi_putf, fi_putr, fi_ald, fi_ast, fi_alen, fi_iret, fi_zret, fi_vret, fi_cut, fi_no, fi_s0, fi_s1, fi_s2, fi_s3, fi_s4, fi_v0, fi_v1, fi_v2, fi_v3, fi_v4, fi_v5, fi_n0, fi_n1, fi_n2, fi_mm, fi_stat, fi_alds, fi_tsw, List.getElem?_cons_zero, List.getElem?_cons_succ, List.set_cons_zero, List.set_cons_succ, List.length_cons, List.length_nil, Option.toList_some, Option.toList_none, List.cons_append, List.nil_append, Value.category, true_and, k_0, k_1, k_2, k_3, k_4, false_implies, true_implies, reduceCtorEq]
      have e : flF V nS (n + 1) k N c = if loD (reN V N nS k) 12 0 = -1 then flF V nS n (k + 1) N c else flF V nS n (k + 1) (nwN N k (loD (reN V N nS k) 12 0)) (c + 1) := by
        simp only [flF]
        by_cases w : loD (reN V N nS k) 12 0 = -1
        · rw [if_neg (fun z => z.2 w), if_pos w]
        · rw [if_pos ⟨q, w⟩, if_neg w]
      rw [e]
      refine fs_R_mono (go σ1 _ z ?_ (h.keep (fun a h1 h2 h3 => hs1 a (by unfold inT; omega)))) ?_
      · rcases loD_spec (re := reN V N nS k) 12 0 with w | ⟨f, h1, h2, h3, h4⟩
        · exact Or.inl w
        · exact Or.inr ⟨f, by omega, h3, h4⟩
      rintro r M' ⟨rfl, σ3, rfl, h3, hs3⟩
      exact ⟨rfl, σ3, rfl, h3, fun a ha => by rw [hs3 a ha, hs1 a (by unfold inT; omega)]⟩
    · have e : flF V nS (n + 1) k N c = flF V nS n (k + 1) N c := by
        simp only [flF]
        rw [if_neg (fun z => q z.1)]
      rw [e]
      refine fs_R_mono (go σ (-1) z (Or.inl rfl) h) ?_
      rintro r M' hr
      rw [if_pos rfl] at hr
      exact hr
/-- what fill leaves -/
theorem flF_ok (hT : okT V nL nA nS) : ∀ n k N c, k + n = nS → okN V nS N → okN V nS (flF V nS n k N c).1 ∧ c ≤ (flF V nS n k N c).2 ∧ (flF V nS n k N c).2 ≤ c + n ∧ ((flF V nS n k N c).2 = c → (flF V nS n k N c).1 = N)
  | 0, k, N, c, _, hN => ⟨hN, Nat.le_refl _, Nat.le_refl _, fun _ => rfl⟩
  | n + 1, k, N, c, hk, hN => by
    simp only [flF]
    by_cases q : N (4 + k) = -1 ∧ ¬ loD (reN V N nS k) 12 0 = -1
    · rw [if_pos q]
      have hok : okN V nS (nwN N k (loD (reN V N nS k) 12 0)) := by
        rcases loD_spec (re := reN V N nS k) 12 0 with w | ⟨f, h1, h2, h3, h4⟩
        · exact absurd w q.2
        · rw [h3]; exact okN_put2 hT hN (show k < nS by omega) (show f < 12 by omega) h4
      obtain ⟨a1, a2, a3, a4⟩ := flF_ok hT n (k + 1) (nwN N k (loD (reN V N nS k) 12 0)) (c + 1) (by omega) hok
      exact ⟨a1, by omega, by omega, fun z => by omega⟩
    · rw [if_neg q]
      obtain ⟨a1, a2, a3, a4⟩ := flF_ok hT n (k + 1) N c (by omega) hN
      exact ⟨a1, by omega, by omega, a4⟩
theorem k_fill (hX : shX S) (hS : shS S) (hV : okV V nL nA nS kp nb) : chgC g S fr τ V nL nA nS kp nb m_X8_fill [.ref 0] (nI (flF V nS nS 0 (V 4) 0).2) (fW V kp (flF V nS nS 0 (V 4) 0).1 (flF V nS nS 0 (V 4) 0).2) (fK kp (flF V nS nS 0 (V 4) 0).2) := by
  intro σ h
  refine fs_enterC (by decide) (by simp [fs_ok]) (Nat.le_of_ble_eq_true rfl) (fun d => S_X8_fill_0 ?_)
  show T_X8_fill_0 g d _ [.ref 0, .null, .null, .null] [] _
  simp only [T_X8_fill_0, fi_const, fi_iload, fi_aload, fi_istore, fi_astore, fi_iinc, fi_bin, fi_div, fi_un, fi_dup, fi_dup2, fi_pop, fi_if, fi_cmp, fi_getf, fi_putf, fi_putr, fi_ald, fi_ast, fi_alen, fi_iret, fi_zret, fi_vret, fi_cut, fi_no, fi_s0, fi_s1, fi_s2, fi_s3, fi_s4, fi_v0, fi_v1, fi_v2, fi_v3, fi_v4, fi_v5, fi_n0, fi_n1, fi_n2, fi_mm, fi_stat, fi_alds, fi_tsw, List.getElem?_cons_zero, List.getElem?_cons_succ, List.set_cons_zero, List.set_cons_succ, List.length_cons, List.length_nil, Option.toList_some, Option.toList_none, List.cons_append, List.nil_append, Value.category, true_and, k_0, k_1, k_2, k_3, k_4, false_implies, true_implies, reduceCtorEq]
  exact l_fill hX hS hV nS 0 (V 4) 0 σ .null (by omega) (Nat.le_refl _) (fun _ => rfl) hV.2.1 h.to0
theorem okV_fill (hV : okV V nL nA nS kp nb) : okV (fW V kp (flF V nS nS 0 (V 4) 0).1 (flF V nS nS 0 (V 4) 0).2) nL nA nS (fK kp (flF V nS nS 0 (V 4) 0).2) nb := by
  obtain ⟨a1, -, -, -⟩ := flF_ok hV.1 nS 0 (V 4) 0 (by omega) hV.2.1
  unfold fW fK
  split
  · exact hV
  · exact okV_ch hV a1
end PD8
