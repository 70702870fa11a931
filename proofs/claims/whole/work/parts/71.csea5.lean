/-! ===== the least cost; bestCost, bestOrder of the class ===== -/
/-- the answer of bestOrder -/
def boV (V : Vt) (nA nS : Nat) (x : Int32) : Int32 := if 7 < nDV V nS then -4 else match bsV V nA nS with | none => -1 | some m => if inI x (nDV V nS) then nI (owV V nS (rwN (nDV V nS) m x.toNatClampNeg)) else -1
section PS6
variable {g : fs_G} {d : Nat} {S : List fs_Sh} {fr : Bool} {σ σ0 : Nat → Nat → Int32} {τ : Nat → Nat → Int64} {V : Vt} {nL nA nS kp nb : Nat}
theorem l_fixed45 (hX : shX S) (hS : shS S) (hT : okT V nL nA nS) (h0 : IC σ0 V nL nA nS kp nb) (hs : ∀ a, a < 50 → σ a = σ0 a) {s0 : Nat} : ∀ m k, k + m = nA → fs_R g m_X3_fixedCost d (0, 0) 45 [.ref 50, .int (nI (s0 + smN (fun a => feN V a * ct (v_wk V nS a) 12) k)), .int (nI k)] [] ((S, fr), σ, τ) (fun r M' => r = some (.int (nI (s0 + smN (fun a => feN V a * ct (v_wk V nS a) 12) nA))) ∧ ((S, fr), σ, τ) = M')
  | 0, k, hk => by
    have hP := hX.2.2.1
    have hA := hT.2.2.2.2.1
    have e4 : σ 2 4 = nI nA := by rw [hs 2 (by decide)]; exact h0.1.2.1
    refine S_X3_fixedCost_45 ?_
    simp only [T_X3_fixedCost_45, fi_const, fi_iload, fi_aload, fi_istore, fi_astore, fi_iinc, fi_bin, fi_div, fi_un, fi_dup, fi_dup2, fi_pop, fi_if, fi_cmp, fi_getf, fi_putf, fi_putr, fi_ald, fi_ast, fi_alen, fi_iret, fi_zret, fi_vret, fi_cut, fi_no, fi_s0, fi_s1, fi_s2, fi_s3, fi_s4, fi_v0, fi_v1, fi_v2, fi_v3, fi_v4, fi_v5, fi_n0, fi_n1, fi_n2, fi_mm, fi_stat, fi_alds, fi_tsw, List.getElem?_cons_zero, List.getElem?_cons_succ, List.set_cons_zero, List.set_cons_succ, List.length_cons, List.length_nil, Option.toList_some, Option.toList_none, List.cons_append, List.nil_append, Value.category, true_and, k_0, k_1, k_2, k_3, k_4, false_implies, true_implies, reduceCtorEq, hS.1, hP.1, e4]
    refine pk_le nA k (fun _ => ?_) (fun z => by omega)
    rw [show k = nA by omega]
    exact ⟨rfl, trivial⟩
  | m + 1, k, hk => by
    have hP := hX.2.2.1
    have hD := hX.2.2.2.1
    have hA := hT.2.2.2.2.1
    have e4 : σ 2 4 = nI nA := by rw [hs 2 (by decide)]; exact h0.1.2.1
    have e7 : σ 7 k = nI (feN V k) := by rw [hs 7 (by decide), (h0.2.2.1 k (by omega)).2]; exact (fe_yes hT (by omega)).1
    have i6 : vp_in (nI k) 6 := vp_in_nI (by omega) (by decide)
    refine S_X3_fixedCost_45 ?_
    simp only [T_X3_fixedCost_45, fi_const, fi_iload, fi_aload, fi_istore, fi_astore, fi_iinc, fi_bin, fi_div, fi_un, fi_dup, fi_dup2, fi_pop, fi_if, fi_cmp, fi_getf, fi_putf, fi_putr, fi_ald, fi_ast, fi_alen, fi_iret, fi_zret, fi_vret, fi_cut, fi_no, fi_s0, fi_s1, fi_s2, fi_s3, fi_s4, fi_v0, fi_v1, fi_v2, fi_v3, fi_v4, fi_v5, fi_n0, fi_n1, fi_n2, fi_mm, fi_stat, fi_alds, fi_tsw, List.getElem?_cons_zero, List.getElem?_cons_succ, List.set_cons_zero, List.set_cons_succ, List.length_cons, List.length_nil, Option.toList_some, Option.toList_none, List.cons_append, List.nil_append, Value.category, true_and, k_0, k_1, k_2, k_3, k_4, false_implies, true_implies, reduceCtorEq, hS.1, hP.1, e4, hP.2.2.2.2.2.1, i6, nI_clamp (show k < 2 ^ 31 by omega), show 2 + 5 = 7 from rfl, e7]
    refine pk_le nA k (fun z => by omega) (fun _ => ⟨by decide, ⟨_, hD.1⟩, (c_workOf (t := 14) hD (show k < 6 by omega)).mono ?_⟩)
    rintro r M' ⟨⟨x, rfl, hx⟩, rfl⟩
    simp only [fi_const, fi_iload, fi_aload, fi_istore, fi_astore, fi_iinc, fi_bin, fi_div, fi_un, fi_dup, fi_dup2, fi_pop, fi_if, fi_cmp, fi_getf, fi_putf, fi_putr, fi_ald, fi_ast, fi_alen, fi_iret, fi_zret, fi_vret, fi_cut, fi_no, fi_s0, fi_s1, fi_s2, fi_s3, fi_s4, fi_v0, fi_v1, fi_v2, fi_v3, fi_v4, fi_v5, fi_n0, fi_n1, fi_n2, fi_mm, fi_stat, fi_alds, fi_tsw, List.getElem?_cons_zero, List.getElem?_cons_succ, List.set_cons_zero, List.set_cons_succ, List.length_cons, List.length_nil, Option.toList_some, Option.toList_none, List.cons_append, List.nil_append, Value.category, true_and, k_0, k_1, k_2, k_3, k_4, false_implies, true_implies, reduceCtorEq]
    refine ⟨by decide, (c_bitCount x hx.d12).mono ?_⟩
    rintro r M' ⟨rfl, rfl⟩
    have ec : ct (bt x) 12 = ct (v_wk V nS k) 12 := by
      rw [ct_isSet hx]
      exact ct_congr (fun e he => by rw [show 14 + 5 = 19 from rfl, hs 19 (by decide)]; exact wk_eq h0 hT.2.2.2.2.2.1 k e he)
    rw [ec]
    simp only [fi_const, fi_iload, fi_aload, fi_istore, fi_astore, fi_iinc, fi_bin, fi_div, fi_un, fi_dup, fi_dup2, fi_pop, fi_if, fi_cmp, fi_getf, fi_putf, fi_putr, fi_ald, fi_ast, fi_alen, fi_iret, fi_zret, fi_vret, fi_cut, fi_no, fi_s0, fi_s1, fi_s2, fi_s3, fi_s4, fi_v0, fi_v1, fi_v2, fi_v3, fi_v4, fi_v5, fi_n0, fi_n1, fi_n2, fi_mm, fi_stat, fi_alds, fi_tsw, List.getElem?_cons_zero, List.getElem?_cons_succ, List.set_cons_zero, List.set_cons_succ, List.length_cons, List.length_nil, Option.toList_some, Option.toList_none, List.cons_append, List.nil_append, Value.category, true_and, k_0, k_1, k_2, k_3, k_4, false_implies, true_implies, reduceCtorEq, pk_mul, nI_add, nI_1]
    rw [show s0 + smN (fun a => feN V a * ct (v_wk V nS a) 12) k + feN V k * ct (v_wk V nS k) 12 = s0 + smN (fun a => feN V a * ct (v_wk V nS a) 12) (k + 1) by simp only [smN]; omega]
    exact l_fixed45 hX hS hT h0 hs m (k + 1) (by omega)
theorem l_fixed4 (hX : shX S) (hS : shS S) (hT : okT V nL nA nS) (h0 : IC σ0 V nL nA nS kp nb) (h7 : nDV V nS ≤ 7) (hs : ∀ a, a < 50 → σ a = σ0 a) (h50 : σ 50 0 = nI (nDV V nS)) (h52 : ∀ i, i < nDV V nS → σ 52 i = nI (owV V nS i)) : ∀ m k, k + m = nDV V nS → fs_R g m_X3_fixedCost d (0, 0) 4 [.ref 50, .int (nI (smN (rbO V nS) k)), .int (nI k)] [] ((S, fr), σ, τ) (fun r M' => r = some (.int (nI (FXV V nA nS))) ∧ ((S, fr), σ, τ) = M')
  | 0, k, hk => by
    refine S_X3_fixedCost_4 ?_
    simp only [T_X3_fixedCost_4, fi_const, fi_iload, fi_aload, fi_istore, fi_astore, fi_iinc, fi_bin, fi_div, fi_un, fi_dup, fi_dup2, fi_pop, fi_if, fi_cmp, fi_getf, fi_putf, fi_putr, fi_ald, fi_ast, fi_alen, fi_iret, fi_zret, fi_vret, fi_cut, fi_no, fi_s0, fi_s1, fi_s2, fi_s3, fi_s4, fi_v0, fi_v1, fi_v2, fi_v3, fi_v4, fi_v5, fi_n0, fi_n1, fi_n2, fi_mm, fi_stat, fi_alds, fi_tsw, List.getElem?_cons_zero, List.getElem?_cons_succ, List.set_cons_zero, List.set_cons_succ, List.length_cons, List.length_nil, Option.toList_some, Option.toList_none, List.cons_append, List.nil_append, Value.category, true_and, k_0, k_1, k_2, k_3, k_4, false_implies, true_implies, reduceCtorEq, hS.1, h50]
    refine pk_le (nDV V nS) k (fun _ => ?_) (fun z => by omega)
    rw [show k = nDV V nS by omega]
    exact l_fixed45 hX hS hT h0 hs nA 0 (by omega)
  | m + 1, k, hk => by
    have hP := hX.2.2.1
    have hD := hX.2.2.2.1
    have hk' : k < nDV V nS := by omega
    have ho := (ow_lt hk').1
    obtain ⟨l, hl, el⟩ := pl_yes hT hk'
    have h4 := hT.2.2.2.1
    have e52 := h52 k hk'
    have e16 : σ 16 (owV V nS k) = nI l := by rw [hs 16 (by decide), (h0.tb hT.2.2.2.2.2.1 _ ho).2.1]; exact el
    have e4 : σ 4 l = nI (rbO V nS k) := by
      rw [hs 4 (by decide), (h0.2.1 l hl).2.1]
      have := ra_yes hT hk'
      rw [el, nI_clamp (by omega)] at this
      exact this
    have i7 : vp_in (nI k) 7 := vp_in_nI (by omega) (by decide)
    have i12 : vp_in (nI (owV V nS k)) 12 := vp_in_nI ho (by decide)
    have i4 : vp_in (nI l) 4 := vp_in_nI (by omega) (by decide)
    refine S_X3_fixedCost_4 ?_
    simp only [T_X3_fixedCost_4, fi_const, fi_iload, fi_aload, fi_istore, fi_astore, fi_iinc, fi_bin, fi_div, fi_un, fi_dup, fi_dup2, fi_pop, fi_if, fi_cmp, fi_getf, fi_putf, fi_putr, fi_ald, fi_ast, fi_alen, fi_iret, fi_zret, fi_vret, fi_cut, fi_no, fi_s0, fi_s1, fi_s2, fi_s3, fi_s4, fi_v0, fi_v1, fi_v2, fi_v3, fi_v4, fi_v5, fi_n0, fi_n1, fi_n2, fi_mm, fi_stat, fi_alds, fi_tsw, List.getElem?_cons_zero, List.getElem?_cons_succ, List.set_cons_zero, List.set_cons_succ, List.length_cons, List.length_nil, Option.toList_some, Option.toList_none, List.cons_append, List.nil_append, Value.category, true_and, k_0, k_1, k_2, k_3, k_4, false_implies, true_implies, reduceCtorEq, hS.1, h50, hP.1, hD.1, hD.2.2.1, hP.2.2.1, hS.2.2.1, i7, i12, i4, nI_clamp (show k < 2 ^ 31 by omega), nI_clamp (show owV V nS k < 2 ^ 31 by omega), nI_clamp (show l < 2 ^ 31 by omega), show 14 + 2 = 16 from rfl, show 2 + 2 = 4 from rfl, e52, e16, e4, nI_add, nI_1]
    refine pk_le (nDV V nS) k (fun z => by omega) (fun _ => ?_)
    exact l_fixed4 hX hS hT h0 h7 hs h50 h52 m (k + 1) (by omega)
theorem c_fixed (hX : shX S) (hS : shS S) (hT : okT V nL nA nS) (h0 : IC σ0 V nL nA nS kp nb) (h7 : nDV V nS ≤ 7) (hs : ∀ a, a < 50 → σ a = σ0 a) (h50 : σ 50 0 = nI (nDV V nS)) (h52 : ∀ i, i < nDV V nS → σ 52 i = nI (owV V nS i)) : fs_Ct g m_X3_fixedCost [.ref 50] ((S, fr), σ, τ) (fun r M' => r = some (.int (nI (FXV V nA nS))) ∧ ((S, fr), σ, τ) = M') := by
  refine fs_enterC (by decide) (by simp [fs_ok]) (Nat.le_of_ble_eq_true rfl) (fun d => S_X3_fixedCost_0 ?_)
  show T_X3_fixedCost_0 g d _ [.ref 50, .null, .null] [] _
  simp only [T_X3_fixedCost_0, fi_const, fi_iload, fi_aload, fi_istore, fi_astore, fi_iinc, fi_bin, fi_div, fi_un, fi_dup, fi_dup2, fi_pop, fi_if, fi_cmp, fi_getf, fi_putf, fi_putr, fi_ald, fi_ast, fi_alen, fi_iret, fi_zret, fi_vret, fi_cut, fi_no, fi_s0, fi_s1, fi_s2, fi_s3, fi_s4, fi_v0, fi_v1, fi_v2, fi_v3, fi_v4, fi_v5, fi_n0, fi_n1, fi_n2, fi_mm, fi_stat, fi_alds, fi_tsw, List.getElem?_cons_zero, List.getElem?_cons_succ, List.set_cons_zero, List.set_cons_succ, List.length_cons, List.length_nil, Option.toList_some, Option.toList_none, List.cons_append, List.nil_append, Value.category, true_and, k_0, k_1, k_2, k_3, k_4, false_implies, true_implies, reduceCtorEq]
  exact l_fixed4 hX hS hT h0 h7 hs h50 h52 (nDV V nS) 0 (by omega)
/-- only the search has changed -/
theorem IC.ser {σ' : Nat → Nat → Int32} (h : IC σ V nL nA nS kp nb) (hs : ∀ a, a < 50 → σ' a = σ a) (hr : srch σ' V nA nS) : IC σ' V nL nA nS kp nb := by
  refine (h.to0.keep (fun a h1 h2 h3 => hs a (by omega))).to ?_ hr
  have h7 := h.2.2.2.2.2.2.1
  unfold tab at h7 ⊢
  rw [hs 12 (by decide), hs (14 + 1) (by decide), hs (14 + 2) (by decide), hs (14 + 3) (by decide), hs (14 + 4) (by decide), hs (14 + 5) (by decide), hs (2 + 6) (by decide), hs (2 + 7) (by decide), hs (2 + 8) (by decide), hs (2 + 9) (by decide)]
  exact h7
theorem c_least (hX : shX S) (hS : shS S) (hT : okT V nL nA nS) (hN : okN V nS (V 4)) (h : IC σ V nL nA nS kp nb) : fs_Ct g m_X3_leastCost [.ref 50] ((S, fr), σ, τ) (fun r M' => r = some (.int (bcV V nA nS)) ∧ ∃ σ', M' = ((S, fr), σ', τ) ∧ IC σ' V nL nA nS kp nb ∧ (∀ a, 56 ≤ a → σ' a = σ a) ∧ srK σ' V nA nS) := by
  have hA := hT.2.2.2.2.1
  refine fs_enterC (by decide) (by simp [fs_ok]) (Nat.le_of_ble_eq_true rfl) (fun d => S_X3_leastCost_0 ?_)
  show T_X3_leastCost_0 g d _ [.ref 50] [] _
  simp only [T_X3_leastCost_0, fi_const, fi_iload, fi_aload, fi_istore, fi_astore, fi_iinc, fi_bin, fi_div, fi_un, fi_dup, fi_dup2, fi_pop, fi_if, fi_cmp, fi_getf, fi_putf, fi_putr, fi_ald, fi_ast, fi_alen, fi_iret, fi_zret, fi_vret, fi_cut, fi_no, fi_s0, fi_s1, fi_s2, fi_s3, fi_s4, fi_v0, fi_v1, fi_v2, fi_v3, fi_v4, fi_v5, fi_n0, fi_n1, fi_n2, fi_mm, fi_stat, fi_alds, fi_tsw, List.getElem?_cons_zero, List.getElem?_cons_succ, List.set_cons_zero, List.set_cons_succ, List.length_cons, List.length_nil, Option.toList_some, Option.toList_none, List.cons_append, List.nil_append, Value.category, true_and, k_0, k_1, k_2, k_3, k_4, false_implies, true_implies, reduceCtorEq]
  simp only [fi_const, fi_iload, fi_aload, fi_istore, fi_astore, fi_iinc, fi_bin, fi_div, fi_un, fi_dup, fi_dup2, fi_pop, fi_if, fi_cmp, fi_getf, fi_putf, fi_putr, fi_ald, fi_ast, fi_alen, fi_iret, fi_zret, fi_vret, fi_cut, fi_no, fi_s0, fi_s1, fi_s2, fi_s3, fi_s4, fi_v0, fi_v1, fi_v2, fi_v3, fi_v4, fi_v5, fi_n0, fi_n1, fi_n2, fi_mm, fi_stat, fi_alds, fi_tsw, List.getElem?_cons_zero, List.getElem?_cons_succ, List.set_cons_zero, List.set_cons_succ, List.length_cons, List.length_nil, Option.toList_some, Option.toList_none, List.cons_append, List.nil_append, Value.category, true_and, k_0, k_1, k_2, k_3, k_4, false_implies, true_implies, reduceCtorEq, hS.1]
  refine ⟨fun q => ?_, fun q => ?_⟩
  · refine ⟨Or.inr trivial, ?_⟩
    have s1 : ∀ a, a ≠ 50 → fs_u (fs_u σ 50 4 1) 50 5 (-1) a = σ a := fun a ha => by rw [fs_u_ne ha, fs_u_ne ha]
    refine ⟨by decide, ⟨_, rfl⟩, (c_listDays (σ0 := σ) hX hS hT h (fun a ha => s1 a (by omega))).mono ?_⟩
    rintro r M' ⟨rfl, σ1, rfl, f1, f2⟩
    have f50 : ∀ b, b ≠ 0 → σ1 50 b = fs_u (fs_u σ 50 4 1) 50 5 (-1) 50 b := fun b hb => f1 50 b (fun z => hb z.2) (by decide)
    have fa : ∀ a, a ≠ 50 → a ≠ 52 → σ1 a = σ a := fun a h1 h2 => by rw [← s1 a h1]; funext b; exact f1 a b (fun z => h1 z.1) h2
    simp only [fi_const, fi_iload, fi_aload, fi_istore, fi_astore, fi_iinc, fi_bin, fi_div, fi_un, fi_dup, fi_dup2, fi_pop, fi_if, fi_cmp, fi_getf, fi_putf, fi_putr, fi_ald, fi_ast, fi_alen, fi_iret, fi_zret, fi_vret, fi_cut, fi_no, fi_s0, fi_s1, fi_s2, fi_s3, fi_s4, fi_v0, fi_v1, fi_v2, fi_v3, fi_v4, fi_v5, fi_n0, fi_n1, fi_n2, fi_mm, fi_stat, fi_alds, fi_tsw, List.getElem?_cons_zero, List.getElem?_cons_succ, List.set_cons_zero, List.set_cons_succ, List.length_cons, List.length_nil, Option.toList_some, Option.toList_none, List.cons_append, List.nil_append, Value.category, true_and, k_0, k_1, k_2, k_3, k_4, false_implies, true_implies, reduceCtorEq, bI_eq0, hS.1, decide_eq_false_iff_not]
    refine ⟨fun q2 => ?_, fun q2 => ?_⟩
    · have hb : bcV V nA nS = -4 := by unfold bcV; rw [if_pos (by omega)]
      rw [u_eq]
      have hK : srK (fs_u σ1 50 5 (-4)) V nA nS := ⟨by rw [u_eq, hb], fun z => absurd z q2⟩
      refine ⟨by rw [hb], _, rfl, h.ser (fun a ha => by rw [fs_u_ne (by omega), fa a (by omega) (by omega)]) (Or.inr ⟨?_, hK⟩), fun a ha => by rw [fs_u_ne (by omega), fa a (by omega) (by omega)], hK⟩
      simp only [fs_u]
      rw [if_neg (by decide), f50 4 (by decide)]
      simp [fs_u]
    · have h7 : nDV V nS ≤ 7 := Decidable.byContradiction q2
      obtain ⟨g0, g52⟩ := f2 h7
      refine ⟨by decide, ⟨_, rfl⟩, (c_prep hX hS hN (by rw [fa 13 (by decide) (by decide)]; exact h.2.2.2.2.2.1 3 (by decide))).mono ?_⟩
      rintro r M' ⟨rfl, σ2, rfl, p1, p2, p3⟩
      have g2 : ∀ a, a < 50 ∨ 56 ≤ a → σ2 a = σ a := fun a ha => by rw [p1 a (by omega) (by omega), fa a (by omega) (by omega)]
      have e50 : σ2 50 = σ1 50 := p1 50 (by decide) (by decide)
      have e52 : σ2 52 = σ1 52 := p1 52 (by decide) (by decide)
      simp only [fi_const, fi_iload, fi_aload, fi_istore, fi_astore, fi_iinc, fi_bin, fi_div, fi_un, fi_dup, fi_dup2, fi_pop, fi_if, fi_cmp, fi_getf, fi_putf, fi_putr, fi_ald, fi_ast, fi_alen, fi_iret, fi_zret, fi_vret, fi_cut, fi_no, fi_s0, fi_s1, fi_s2, fi_s3, fi_s4, fi_v0, fi_v1, fi_v2, fi_v3, fi_v4, fi_v5, fi_n0, fi_n1, fi_n2, fi_mm, fi_stat, fi_alds, fi_tsw, List.getElem?_cons_zero, List.getElem?_cons_succ, List.set_cons_zero, List.set_cons_succ, List.length_cons, List.length_nil, Option.toList_some, Option.toList_none, List.cons_append, List.nil_append, Value.category, true_and, k_0, k_1, k_2, k_3, k_4, false_implies, true_implies, reduceCtorEq, hS.1]
      refine ⟨by decide, ⟨_, rfl⟩, (c_fixed (σ0 := σ) hX hS hT h h7 (fun a ha => g2 a (Or.inl ha)) (by rw [e50]; exact g0) (by rw [e52]; exact g52)).mono ?_⟩
      rintro r M' ⟨rfl, rfl⟩
      simp only [fi_const, fi_iload, fi_aload, fi_istore, fi_astore, fi_iinc, fi_bin, fi_div, fi_un, fi_dup, fi_dup2, fi_pop, fi_if, fi_cmp, fi_getf, fi_putf, fi_putr, fi_ald, fi_ast, fi_alen, fi_iret, fi_zret, fi_vret, fi_cut, fi_no, fi_s0, fi_s1, fi_s2, fi_s3, fi_s4, fi_v0, fi_v1, fi_v2, fi_v3, fi_v4, fi_v5, fi_n0, fi_n1, fi_n2, fi_mm, fi_stat, fi_alds, fi_tsw, List.getElem?_cons_zero, List.getElem?_cons_succ, List.set_cons_zero, List.set_cons_succ, List.length_cons, List.length_nil, Option.toList_some, Option.toList_none, List.cons_append, List.nil_append, Value.category, true_and, k_0, k_1, k_2, k_3, k_4, false_implies, true_implies, reduceCtorEq, hS.1]
      have hDI : DI σ σ2 V nA nS (fun _ => 0) 0 := by
        refine ⟨fun a ha => g2 a (by omega), by rw [e50]; exact g0, ?_, by rw [e52]; exact g52, fun i hi => by omega, fun a ha => by rw [p2 a (by omega)]; rfl, p3⟩
        rw [e50, f50 4 (by decide)]
        simp [fs_u]
      have hst : stS σ2 V nA nS none := by
        refine ⟨?_, fun m hm => by cases hm⟩
        rw [e50, f50 5 (by decide), u_eq]
      have hPR : PR V nS (fun _ => 0) 0 0 (nDV V nS) := ⟨fun i hi => by omega, fun i hi => by omega, fun i hi => by omega, fun x _ _ i hi => by omega⟩
      have hex : fs_Ct g mo_X3_extend [.ref 50, .int 0, .int 0, .int (nI (FXV V nA nS))] ((S, fr), σ2, τ) (fun x M' => x = none ∧ ∃ σ', M' = ((S, fr), σ', τ) ∧ DI σ σ' V nA nS (fun _ => 0) 0 ∧ stS σ' V nA nS (bsV V nA nS)) := by
        intro d hd
        have hd' : 24 ≤ d := hd
        have := c_extend (g := g) (S := S) (fr := fr) (τ := τ) hX hS hT hN h7 h (nDV V nS) 0 0 (fun _ => 0) none 0 σ2 d (by omega) (by omega) hPR (fun j hj => by rw [bt_zero]; rfl) hDI hst
        rw [Nat.zero_mul] at this
        exact this
      refine ⟨by decide, ⟨_, rfl⟩, hex.mono ?_⟩
      rintro r M' ⟨rfl, σ3, rfl, hD3, hs3⟩
      simp only [fi_const, fi_iload, fi_aload, fi_istore, fi_astore, fi_iinc, fi_bin, fi_div, fi_un, fi_dup, fi_dup2, fi_pop, fi_if, fi_cmp, fi_getf, fi_putf, fi_putr, fi_ald, fi_ast, fi_alen, fi_iret, fi_zret, fi_vret, fi_cut, fi_no, fi_s0, fi_s1, fi_s2, fi_s3, fi_s4, fi_v0, fi_v1, fi_v2, fi_v3, fi_v4, fi_v5, fi_n0, fi_n1, fi_n2, fi_mm, fi_stat, fi_alds, fi_tsw, List.getElem?_cons_zero, List.getElem?_cons_succ, List.set_cons_zero, List.set_cons_succ, List.length_cons, List.length_nil, Option.toList_some, Option.toList_none, List.cons_append, List.nil_append, Value.category, true_and, k_0, k_1, k_2, k_3, k_4, false_implies, true_implies, reduceCtorEq, hS.1]
      have hb : σ3 50 5 = bcV V nA nS := by
        rw [hs3.1]
        unfold bcV
        rw [if_neg (by omega)]
        rfl
      have hK : srK σ3 V nA nS := ⟨hb, fun _ => ⟨hD3.2.1, hs3.2⟩⟩
      exact ⟨by rw [hb], σ3, rfl, h.ser (fun a ha => hD3.1 a (by omega)) (Or.inr ⟨hD3.2.2.1, hK⟩), fun a ha => hD3.1 a (by omega), hK⟩
  · have hr := h.2.2.2.2.2.2.2.2.2.2.2.2
    rcases hr with w | ⟨w, hK⟩
    · exact absurd w q
    · exact ⟨by rw [hK.1], σ, rfl, h, fun _ _ => rfl, hK⟩
theorem a_bestCost (hX : shX S) (hS : shS S) (hT : okT V nL nA nS) (hN : okN V nS (V 4)) : askC g S fr τ V nL nA nS kp nb m_X8_bestCost [.ref 0] (bcV V nA nS) := by
  intro σ h
  refine fs_enterC (by decide) (by simp [fs_ok]) (Nat.le_of_ble_eq_true rfl) (fun d => S_X8_bestCost_0 ?_)
  show T_X8_bestCost_0 g d _ [.ref 0] [] _
  simp only [T_X8_bestCost_0, fi_const, fi_iload, fi_aload, fi_istore, fi_astore, fi_iinc, fi_bin, fi_div, fi_un, fi_dup, fi_dup2, fi_pop, fi_if, fi_cmp, fi_getf, fi_putf, fi_putr, fi_ald, fi_ast, fi_alen, fi_iret, fi_zret, fi_vret, fi_cut, fi_no, fi_s0, fi_s1, fi_s2, fi_s3, fi_s4, fi_v0, fi_v1, fi_v2, fi_v3, fi_v4, fi_v5, fi_n0, fi_n1, fi_n2, fi_mm, fi_stat, fi_alds, fi_tsw, List.getElem?_cons_zero, List.getElem?_cons_succ, List.set_cons_zero, List.set_cons_succ, List.length_cons, List.length_nil, Option.toList_some, Option.toList_none, List.cons_append, List.nil_append, Value.category, true_and, k_0, k_1, k_2, k_3, k_4, false_implies, true_implies, reduceCtorEq]
  simp only [fi_const, fi_iload, fi_aload, fi_istore, fi_astore, fi_iinc, fi_bin, fi_div, fi_un, fi_dup, fi_dup2, fi_pop, fi_if, fi_cmp, fi_getf, fi_putf, fi_putr, fi_ald, fi_ast, fi_alen, fi_iret, fi_zret, fi_vret, fi_cut, fi_no, fi_s0, fi_s1, fi_s2, fi_s3, fi_s4, fi_v0, fi_v1, fi_v2, fi_v3, fi_v4, fi_v5, fi_n0, fi_n1, fi_n2, fi_mm, fi_stat, fi_alds, fi_tsw, List.getElem?_cons_zero, List.getElem?_cons_succ, List.set_cons_zero, List.set_cons_succ, List.length_cons, List.length_nil, Option.toList_some, Option.toList_none, List.cons_append, List.nil_append, Value.category, true_and, k_0, k_1, k_2, k_3, k_4, false_implies, true_implies, reduceCtorEq, hX.1]
  refine ⟨by decide, ⟨_, hS.1⟩, (c_least hX hS hT hN h).mono ?_⟩
  rintro r M' ⟨rfl, σ', rfl, h', hs, -⟩
  simp only [fi_const, fi_iload, fi_aload, fi_istore, fi_astore, fi_iinc, fi_bin, fi_div, fi_un, fi_dup, fi_dup2, fi_pop, fi_if, fi_cmp, fi_getf, fi_putf, fi_putr, fi_ald, fi_ast, fi_alen, fi_iret, fi_zret, fi_vret, fi_cut, fi_no, fi_s0, fi_s1, fi_s2, fi_s3, fi_s4, fi_v0, fi_v1, fi_v2, fi_v3, fi_v4, fi_v5, fi_n0, fi_n1, fi_n2, fi_mm, fi_stat, fi_alds, fi_tsw, List.getElem?_cons_zero, List.getElem?_cons_succ, List.set_cons_zero, List.set_cons_succ, List.length_cons, List.length_nil, Option.toList_some, Option.toList_none, List.cons_append, List.nil_append, Value.category, true_and, k_0, k_1, k_2, k_3, k_4, false_implies, true_implies, reduceCtorEq]
  exact ⟨σ', rfl, h', hs⟩
theorem bc_neg (hT : okT V nL nA nS) (hN : okN V nS (V 4)) : 0 ≤ bcV V nA nS ↔ nDV V nS ≤ 7 ∧ ∃ m, bsV V nA nS = some m := by
  unfold bcV
  by_cases q : 7 < nDV V nS
  · rw [if_pos q]
    exact ⟨fun z => absurd z (by decide), fun z => by omega⟩
  · rw [if_neg q]
    cases w : bsV V nA nS with
    | none => exact ⟨fun z => absurd z (show ¬ (0 : Int32) ≤ -1 by decide), fun ⟨_, m, z⟩ => by cases z⟩
    | some m => exact ⟨fun _ => ⟨by omega, m, rfl⟩, fun _ => nI_pos' (by have := cc_le (nA := nA) hT hN m; omega)⟩
theorem a_bestOrder (hX : shX S) (hS : shS S) (hT : okT V nL nA nS) (hN : okN V nS (V 4)) (x : Int32) : askC g S fr τ V nL nA nS kp nb m_X8_bestOrder [.ref 0, .int x] (boV V nA nS x) := by
  intro σ h
  refine fs_enterC (by decide) (by simp [fs_ok]) (Nat.le_of_ble_eq_true rfl) (fun d => S_X8_bestOrder_0 ?_)
  show T_X8_bestOrder_0 g d _ [.ref 0, .int x, .null] [] _
  simp only [T_X8_bestOrder_0, fi_const, fi_iload, fi_aload, fi_istore, fi_astore, fi_iinc, fi_bin, fi_div, fi_un, fi_dup, fi_dup2, fi_pop, fi_if, fi_cmp, fi_getf, fi_putf, fi_putr, fi_ald, fi_ast, fi_alen, fi_iret, fi_zret, fi_vret, fi_cut, fi_no, fi_s0, fi_s1, fi_s2, fi_s3, fi_s4, fi_v0, fi_v1, fi_v2, fi_v3, fi_v4, fi_v5, fi_n0, fi_n1, fi_n2, fi_mm, fi_stat, fi_alds, fi_tsw, List.getElem?_cons_zero, List.getElem?_cons_succ, List.set_cons_zero, List.set_cons_succ, List.length_cons, List.length_nil, Option.toList_some, Option.toList_none, List.cons_append, List.nil_append, Value.category, true_and, k_0, k_1, k_2, k_3, k_4, false_implies, true_implies, reduceCtorEq]
  simp only [fi_const, fi_iload, fi_aload, fi_istore, fi_astore, fi_iinc, fi_bin, fi_div, fi_un, fi_dup, fi_dup2, fi_pop, fi_if, fi_cmp, fi_getf, fi_putf, fi_putr, fi_ald, fi_ast, fi_alen, fi_iret, fi_zret, fi_vret, fi_cut, fi_no, fi_s0, fi_s1, fi_s2, fi_s3, fi_s4, fi_v0, fi_v1, fi_v2, fi_v3, fi_v4, fi_v5, fi_n0, fi_n1, fi_n2, fi_mm, fi_stat, fi_alds, fi_tsw, List.getElem?_cons_zero, List.getElem?_cons_succ, List.set_cons_zero, List.set_cons_succ, List.length_cons, List.length_nil, Option.toList_some, Option.toList_none, List.cons_append, List.nil_append, Value.category, true_and, k_0, k_1, k_2, k_3, k_4, false_implies, true_implies, reduceCtorEq, hX.1]
  refine ⟨by decide, ⟨_, hS.1⟩, (c_least hX hS hT hN h).mono ?_⟩
  rintro r M' ⟨rfl, σ', rfl, h', hs, hK⟩
  simp only [fi_const, fi_iload, fi_aload, fi_istore, fi_astore, fi_iinc, fi_bin, fi_div, fi_un, fi_dup, fi_dup2, fi_pop, fi_if, fi_cmp, fi_getf, fi_putf, fi_putr, fi_ald, fi_ast, fi_alen, fi_iret, fi_zret, fi_vret, fi_cut, fi_no, fi_s0, fi_s1, fi_s2, fi_s3, fi_s4, fi_v0, fi_v1, fi_v2, fi_v3, fi_v4, fi_v5, fi_n0, fi_n1, fi_n2, fi_mm, fi_stat, fi_alds, fi_tsw, List.getElem?_cons_zero, List.getElem?_cons_succ, List.set_cons_zero, List.set_cons_succ, List.length_cons, List.length_nil, Option.toList_some, Option.toList_none, List.cons_append, List.nil_append, Value.category, true_and, k_0, k_1, k_2, k_3, k_4, false_implies, true_implies, reduceCtorEq, hX.1, hS.1, hS.2.1]
  refine ⟨fun q => ?_, fun q => ?_⟩
  · obtain ⟨h7, m, em⟩ := (bc_neg hT hN).mp q
    obtain ⟨k0, k1⟩ := hK.2 h7
    have eb : boV V nA nS x = if inI x (nDV V nS) then nI (owV V nS (rwN (nDV V nS) m x.toNatClampNeg)) else -1 := by unfold boV; rw [if_neg (by omega), em]
    rw [k0, eb]
    refine ⟨fun q1 => ⟨?_, σ', rfl, h', hs⟩, fun q1 => ⟨fun q2 => ⟨?_, σ', rfl, h', hs⟩, fun q2 => ?_⟩⟩
    · rw [if_neg (fun z => z.1 q1)]
    · rw [if_neg (fun z => z.2 q2)]
    · obtain ⟨i, hi, rfl⟩ := inI_nat ⟨q1, q2⟩ (by omega)
      rw [nI_clamp (by omega), if_pos ⟨q1, q2⟩, k1 m em i hi]
      exact ⟨vp_in_nI (by omega) (by decide), rfl, σ', rfl, h', hs⟩
  · refine ⟨?_, σ', rfl, h', hs⟩
    have hq : ¬ (nDV V nS ≤ 7 ∧ ∃ m, bsV V nA nS = some m) := fun z => q ((bc_neg hT hN).mpr z)
    congr 2
    unfold bcV boV
    by_cases w : 7 < nDV V nS
    · rw [if_pos w, if_pos w]
    · rw [if_neg w, if_neg w]
      cases v : bsV V nA nS with
      | none => rfl
      | some m => exact absurd ⟨by omega, m, v⟩ hq
end PS6
