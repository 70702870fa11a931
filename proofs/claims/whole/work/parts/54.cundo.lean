/-! ===== undo of the class ===== -/
section PC7
variable {g : fs_G} {d : Nat} {S : List fs_Sh} {fr : Bool} {σ : Nat → Nat → Int32} {τ : Nat → Nat → Int64} {V : Vt} {nL nA nS kp nb : Nat}
theorem c_giveBack (hX : shX S) {k : Nat} (hk : k ≤ 11) (h0 : σ 46 0 = nI (k + 1)) : fs_Ct g m_X1_giveBack [.ref 46, .ref 2] ((S, fr), σ, τ) (fun r M' => r = none ∧ ∃ σ', M' = ((S, fr), σ', τ) ∧ same σ σ' (fun a => a = 46 ∨ a = 12 ∨ a = 13) ∧ σ' 46 0 = nI k ∧ (∀ i, i < 4 → σ' 13 i = σ 47 (18 * k + i)) ∧ ∀ j, j < 14 → σ' 12 j = σ 47 (18 * k + 4 + j)) := by
  have hP := hX.2.2.1
  have hH := hX.2.2.2.2.2.1
  have hR := hX.2.2.2.2.2.2.1
  have e18 : nI k * 18 = nI (k * 18) := pk_mul k 18
  have e4 : nI (k * 18) + 4 = nI (k * 18 + 4) := nI_add (k * 18) 4
  refine fs_enterC (by decide) (by simp [fs_ok]) (Nat.le_of_ble_eq_true rfl) (fun d => S_X1_giveBack_0 ?_)
  show T_X1_giveBack_0 g d _ [.ref 46, .ref 2] [] _
  simp only [T_X1_giveBack_0, fi_const, fi_iload, fi_aload, fi_istore, fi_astore, fi_iinc, fi_bin, fi_div, fi_un, fi_dup, fi_dup2, fi_pop, fi_if, fi_cmp, fi_getf, fi_putf, fi_putr, fi_ald, fi_ast, fi_alen, fi_iret, fi_zret, fi_vret, fi_cut, fi_no, fi_s0, fi_s1, fi_s2, fi_s3, fi_s4, fi_v0, fi_v1, fi_v2, fi_v3, fi_v4, fi_v5, fi_n0, fi_n1, fi_n2, fi_mm, fi_stat, fi_alds, fi_tsw, List.getElem?_cons_zero, List.getElem?_cons_succ, List.set_cons_zero, List.set_cons_succ, List.length_cons, List.length_nil, Option.toList_some, Option.toList_none, List.cons_append, List.nil_append, Value.category, true_and, k_0, k_1, k_2, k_3, k_4, false_implies, true_implies, reduceCtorEq]
  simp only [fi_const, fi_iload, fi_aload, fi_istore, fi_astore, fi_iinc, fi_bin, fi_div, fi_un, fi_dup, fi_dup2, fi_pop, fi_if, fi_cmp, fi_getf, fi_putf, fi_putr, fi_ald, fi_ast, fi_alen, fi_iret, fi_zret, fi_vret, fi_cut, fi_no, fi_s0, fi_s1, fi_s2, fi_s3, fi_s4, fi_v0, fi_v1, fi_v2, fi_v3, fi_v4, fi_v5, fi_n0, fi_n1, fi_n2, fi_mm, fi_stat, fi_alds, fi_tsw, List.getElem?_cons_zero, List.getElem?_cons_succ, List.set_cons_zero, List.set_cons_succ, List.length_cons, List.length_nil, Option.toList_some, Option.toList_none, List.cons_append, List.nil_append, Value.category, true_and, k_0, k_1, k_2, k_3, k_4, false_implies, true_implies, reduceCtorEq, hH, hP.1, h0, nI_pred, u_eq, e18]
  refine ⟨fun z => absurd z (nI_nle (by omega) (by omega)), fun _ => ?_⟩
  refine acp_i (n := 4) (sp := k * 18) (dp := 0) (a := 47) (b := 13) hR hP.2.2.2.2.2.2.2.2.2.2.2 (by omega) (by omega) (by decide) (by decide) (by decide) ?_
  have c46 : ∀ f sp dp n, fs_cp (fs_u σ 46 0 (nI k)) 13 f sp dp n 46 0 = nI k := fun f sp dp n => by rw [cp_ne (by decide), u_eq]
  simp only [fi_const, fi_iload, fi_aload, fi_istore, fi_astore, fi_iinc, fi_bin, fi_div, fi_un, fi_dup, fi_dup2, fi_pop, fi_if, fi_cmp, fi_getf, fi_putf, fi_putr, fi_ald, fi_ast, fi_alen, fi_iret, fi_zret, fi_vret, fi_cut, fi_no, fi_s0, fi_s1, fi_s2, fi_s3, fi_s4, fi_v0, fi_v1, fi_v2, fi_v3, fi_v4, fi_v5, fi_n0, fi_n1, fi_n2, fi_mm, fi_stat, fi_alds, fi_tsw, List.getElem?_cons_zero, List.getElem?_cons_succ, List.set_cons_zero, List.set_cons_succ, List.length_cons, List.length_nil, Option.toList_some, Option.toList_none, List.cons_append, List.nil_append, Value.category, true_and, k_0, k_1, k_2, k_3, k_4, false_implies, true_implies, reduceCtorEq, hH, hP.1, c46, e18, e4]
  refine acp_i (n := 14) (sp := k * 18 + 4) (dp := 0) (a := 47) (b := 12) hR hP.2.2.2.2.2.2.2.2.2.2.1 (by omega) (by omega) (by decide) (by decide) (by decide) ?_
  simp only [fi_const, fi_iload, fi_aload, fi_istore, fi_astore, fi_iinc, fi_bin, fi_div, fi_un, fi_dup, fi_dup2, fi_pop, fi_if, fi_cmp, fi_getf, fi_putf, fi_putr, fi_ald, fi_ast, fi_alen, fi_iret, fi_zret, fi_vret, fi_cut, fi_no, fi_s0, fi_s1, fi_s2, fi_s3, fi_s4, fi_v0, fi_v1, fi_v2, fi_v3, fi_v4, fi_v5, fi_n0, fi_n1, fi_n2, fi_mm, fi_stat, fi_alds, fi_tsw, List.getElem?_cons_zero, List.getElem?_cons_succ, List.set_cons_zero, List.set_cons_succ, List.length_cons, List.length_nil, Option.toList_some, Option.toList_none, List.cons_append, List.nil_append, Value.category, true_and, k_0, k_1, k_2, k_3, k_4, false_implies, true_implies, reduceCtorEq]
  refine ⟨_, rfl, fun a ha => ?_, ?_, fun i hi => ?_, fun j hj => ?_⟩
  · rw [cp_ne (fun z => ha (Or.inr (Or.inl z))), cp_ne (fun z => ha (Or.inr (Or.inr z))), fs_u_ne (fun z => ha (Or.inl z))]
  · rw [cp_ne (by decide), cp_ne (by decide), u_eq]
  · rw [cp_ne (by decide), cp_at, pk_cpy_in (by omega) (by omega), fs_u_ne (by decide)]
    exact congrArg _ (by omega)
  · rw [cp_at, pk_cpy_in (by omega) (by omega), cp_ne (by decide), fs_u_ne (by decide)]
    exact congrArg _ (by omega)
theorem k_undo (hX : shX S) (hS : shS S) {k : Nat} (hV : okV V nL nA nS (k + 1) nb) : chgC g S fr τ V nL nA nS (k + 1) nb m_X8_undo [.ref 0] (nI k) (unV V k) k := by
  intro σ h
  obtain ⟨hT, hN, h9, hkp, -⟩ := id hV
  have hV' := okV_un hV
  have hH := hX.2.2.2.2.2.1
  have h46 := h.2.2.2.2.2.2.2.1
  refine fs_enterC (by decide) (by simp [fs_ok]) (Nat.le_of_ble_eq_true rfl) (fun d => S_X8_undo_0 ?_)
  show T_X8_undo_0 g d _ [.ref 0] [] _
  simp only [T_X8_undo_0, fi_const, fi_iload, fi_aload, fi_istore, fi_astore, fi_iinc, fi_bin, fi_div, fi_un, fi_dup, fi_dup2, fi_pop, fi_if, fi_cmp, fi_getf, fi_putf, fi_putr, fi_ald, fi_ast, fi_alen, fi_iret, fi_zret, fi_vret, fi_cut, fi_no, fi_s0, fi_s1, fi_s2, fi_s3, fi_s4, fi_v0, fi_v1, fi_v2, fi_v3, fi_v4, fi_v5, fi_n0, fi_n1, fi_n2, fi_mm, fi_stat, fi_alds, fi_tsw, List.getElem?_cons_zero, List.getElem?_cons_succ, List.set_cons_zero, List.set_cons_succ, List.length_cons, List.length_nil, Option.toList_some, Option.toList_none, List.cons_append, List.nil_append, Value.category, true_and, k_0, k_1, k_2, k_3, k_4, false_implies, true_implies, reduceCtorEq]
  simp only [fi_const, fi_iload, fi_aload, fi_istore, fi_astore, fi_iinc, fi_bin, fi_div, fi_un, fi_dup, fi_dup2, fi_pop, fi_if, fi_cmp, fi_getf, fi_putf, fi_putr, fi_ald, fi_ast, fi_alen, fi_iret, fi_zret, fi_vret, fi_cut, fi_no, fi_s0, fi_s1, fi_s2, fi_s3, fi_s4, fi_v0, fi_v1, fi_v2, fi_v3, fi_v4, fi_v5, fi_n0, fi_n1, fi_n2, fi_mm, fi_stat, fi_alds, fi_tsw, List.getElem?_cons_zero, List.getElem?_cons_succ, List.set_cons_zero, List.set_cons_succ, List.length_cons, List.length_nil, Option.toList_some, Option.toList_none, List.cons_append, List.nil_append, Value.category, true_and, k_0, k_1, k_2, k_3, k_4, false_implies, true_implies, reduceCtorEq, hX.1, hH, h46]
  refine ⟨fun z => absurd z (nI_ne0 (by omega) (by omega)), fun _ => ⟨by decide, ⟨_, rfl⟩, (c_giveBack hX (k := k) (by omega) h46).mono ?_⟩⟩
  rintro r M' ⟨rfl, σ1, rfl, hs1, s1, s2, s3⟩
  simp only [fi_const, fi_iload, fi_aload, fi_istore, fi_astore, fi_iinc, fi_bin, fi_div, fi_un, fi_dup, fi_dup2, fi_pop, fi_if, fi_cmp, fi_getf, fi_putf, fi_putr, fi_ald, fi_ast, fi_alen, fi_iret, fi_zret, fi_vret, fi_cut, fi_no, fi_s0, fi_s1, fi_s2, fi_s3, fi_s4, fi_v0, fi_v1, fi_v2, fi_v3, fi_v4, fi_v5, fi_n0, fi_n1, fi_n2, fi_mm, fi_stat, fi_alds, fi_tsw, List.getElem?_cons_zero, List.getElem?_cons_succ, List.set_cons_zero, List.set_cons_succ, List.length_cons, List.length_nil, Option.toList_some, Option.toList_none, List.cons_append, List.nil_append, Value.category, true_and, k_0, k_1, k_2, k_3, k_4, false_implies, true_implies, reduceCtorEq, hX.1]
  have h3 : IC0 σ1 (unV V k) nL nA nS k nb := by
    obtain ⟨h1, h2, h3, h4, h5, h6, h7, h8, h9', h10, h11, h12, h13⟩ := h
    have c : ∀ a, a < 12 → σ1 a = σ a := fun a ha => hs1 a (by omega)
    unfold IC0
    simp only [v_lo, v_le, v_ni, v_ca, v_dy, unV_2, unV_1, unV_4, unV_7]
    refine ⟨by rw [c 2 (by omega)]; exact h1, by rw [c 3 (by omega), c 4 (by omega), c 5 (by omega)]; exact h2, by rw [c 6 (by omega), c 7 (by omega)]; exact h3, by rw [c 8 (by omega), c 9 (by omega), c 10 (by omega), c 11 (by omega)]; exact h4, fun j hj => ?_, fun i hi => ?_, s1, fun b hb => ?_, by rw [c 0 (by omega)]; exact h10, by rw [c 1 (by omega)]; exact h11, by rw [c 0 (by omega)]; simpa [unV] using h12⟩
    · rw [s3 j hj, h9' _ (by omega)]
      simp only [fr_]
      rw [if_pos (by omega)]
      exact congrArg _ (by omega)
    · rw [s2 i hi, h9' _ (by omega), if_pos (by omega)]
    · rw [hs1 47 (by omega), h9' b (by omega)]
  refine ⟨by decide, ⟨_, rfl⟩, (c_refresh hX hS hV'.1 hV'.2.1 h3).mono ?_⟩
  rintro r M' ⟨rfl, σ4, rfl, h4, hs4⟩
  simp only [fi_const, fi_iload, fi_aload, fi_istore, fi_astore, fi_iinc, fi_bin, fi_div, fi_un, fi_dup, fi_dup2, fi_pop, fi_if, fi_cmp, fi_getf, fi_putf, fi_putr, fi_ald, fi_ast, fi_alen, fi_iret, fi_zret, fi_vret, fi_cut, fi_no, fi_s0, fi_s1, fi_s2, fi_s3, fi_s4, fi_v0, fi_v1, fi_v2, fi_v3, fi_v4, fi_v5, fi_n0, fi_n1, fi_n2, fi_mm, fi_stat, fi_alds, fi_tsw, List.getElem?_cons_zero, List.getElem?_cons_succ, List.set_cons_zero, List.set_cons_succ, List.length_cons, List.length_nil, Option.toList_some, Option.toList_none, List.cons_append, List.nil_append, Value.category, true_and, k_0, k_1, k_2, k_3, k_4, false_implies, true_implies, reduceCtorEq, hX.1, hH, h4.2.2.2.2.2.2.2.1]
  exact ⟨σ4, rfl, h4, fun a ha => by rw [hs4 a ha, hs1 a (by omega)]⟩
theorem k_undo_0 (hX : shX S) : askC g S fr τ V nL nA nS 0 nb m_X8_undo [.ref 0] (-1) := by
  intro σ h
  have hH := hX.2.2.2.2.2.1
  have h46 : σ 46 0 = 0 := h.2.2.2.2.2.2.2.1
  refine fs_enterC (by decide) (by simp [fs_ok]) (Nat.le_of_ble_eq_true rfl) (fun d => S_X8_undo_0 ?_)
  show T_X8_undo_0 g d _ [.ref 0] [] _
  simp only [T_X8_undo_0, fi_const, fi_iload, fi_aload, fi_istore, fi_astore, fi_iinc, fi_bin, fi_div, fi_un, fi_dup, fi_dup2, fi_pop, fi_if, fi_cmp, fi_getf, fi_putf, fi_putr, fi_ald, fi_ast, fi_alen, fi_iret, fi_zret, fi_vret, fi_cut, fi_no, fi_s0, fi_s1, fi_s2, fi_s3, fi_s4, fi_v0, fi_v1, fi_v2, fi_v3, fi_v4, fi_v5, fi_n0, fi_n1, fi_n2, fi_mm, fi_stat, fi_alds, fi_tsw, List.getElem?_cons_zero, List.getElem?_cons_succ, List.set_cons_zero, List.set_cons_succ, List.length_cons, List.length_nil, Option.toList_some, Option.toList_none, List.cons_append, List.nil_append, Value.category, true_and, k_0, k_1, k_2, k_3, k_4, false_implies, true_implies, reduceCtorEq]
  simp only [fi_const, fi_iload, fi_aload, fi_istore, fi_astore, fi_iinc, fi_bin, fi_div, fi_un, fi_dup, fi_dup2, fi_pop, fi_if, fi_cmp, fi_getf, fi_putf, fi_putr, fi_ald, fi_ast, fi_alen, fi_iret, fi_zret, fi_vret, fi_cut, fi_no, fi_s0, fi_s1, fi_s2, fi_s3, fi_s4, fi_v0, fi_v1, fi_v2, fi_v3, fi_v4, fi_v5, fi_n0, fi_n1, fi_n2, fi_mm, fi_stat, fi_alds, fi_tsw, List.getElem?_cons_zero, List.getElem?_cons_succ, List.set_cons_zero, List.set_cons_succ, List.length_cons, List.length_nil, Option.toList_some, Option.toList_none, List.cons_append, List.nil_append, Value.category, true_and, k_0, k_1, k_2, k_3, k_4, false_implies, true_implies, reduceCtorEq, hX.1, hH, h46]
  exact ⟨⟨σ, rfl, h, fun _ _ => rfl⟩, fun z => absurd trivial z⟩
end PC7
