/-! ===== the helpers' contracts: h_ the class answers, y_ it throws ===== -/
section FH2
variable {g : fs_G} {S : List fs_Sh} {fr : Bool} {σ : Nat → Nat → Int32} {τ : Nat → Nat → Int64} {V : Vt} {nL nA nS kp nb : Nat}
theorem qx_io : Cond.classLink "FilmScheduleLaw" 13 fs_IO ∈ fs_tb := fs_in 986 (by decide +kernel) rfl
def hgQ (S : List fs_Sh) (fr : Bool) (τ : Nat → Nat → Int64) (σ : Nat → Nat → Int32) (V : Vt) (nL nA nS kp nb : Nat) (y : Int32) : Option Value → fs_M → Prop := fun r M' => r = some (.int 0) ∧ ∃ σ', M' = ((S, fr), σ', fs_uL τ 69 0 y.toInt64) ∧ IC σ' V nL nA nS kp nb ∧ ∀ a, 56 ≤ a → σ' a = σ a
def hbQ (S : List fs_Sh) (τ : Nat → Nat → Int64) (σ : Nat → Nat → Int32) : Option Value → fs_M → Prop := fun r M' => r = some (.int 1) ∧ M' = ((S, false), σ, τ)
theorem h_locationProperty (hX : shX S) (hO : S[69]? = some (.inl (.long, 1))) {x z y : Int32} (ha : askC g S fr τ V nL nA nS kp nb m_X8_locationProperty [.ref 0, .int x, .int z] y) (h : IC σ V nL nA nS kp nb) : fh_Ct g m_L_locationProperty hh_L_locationProperty [.ref 0, .int x, .int z, .ref 69] ((S, fr), σ, τ) (hgQ S fr τ σ V nL nA nS kp nb y) := by
  intro d hd
  have i0 : vp_in 0 1 := pk_in 0 1 (by decide) (by decide) (by decide)
  refine fh_enter (by decide) (by simp [fs_ok]) (Nat.le_of_ble_eq_true rfl) hd (fh_of (S_L_locationProperty_0 ?_))
  show T_L_locationProperty_0 g d _ [.ref 0, .int x, .int z, .ref 69, .null] [] _
  simp only [T_L_locationProperty_0, fi_const, fi_iload, fi_aload, fi_istore, fi_astore, fi_iinc, fi_bin, fi_div, fi_un, fi_dup, fi_dup2, fi_pop, fi_if, fi_cmp, fi_getf, fi_putf, fi_putr, fi_ald, fi_ast, fi_alen, fi_iret, fi_zret, fi_vret, fi_cut, fi_no, fi_s0, fi_s1, fi_s2, fi_s3, fi_s4, fi_v0, fi_v1, fi_v2, fi_v3, fi_v4, fi_v5, fi_n0, fi_n1, fi_n2, fi_mm, fi_stat, fi_alds, fi_tsw, List.getElem?_cons_zero, List.getElem?_cons_succ, List.set_cons_zero, List.set_cons_succ, List.length_cons, List.length_nil, Option.toList_some, Option.toList_none, List.cons_append, List.nil_append, Value.category, true_and, k_0, k_1, k_2, k_3, k_4, false_implies, true_implies, reduceCtorEq, fi_i2l, fi_last, fi_lconst]
  refine ⟨by decide, ⟨_, hX.1⟩, (ha σ h).mono ?_⟩
  rintro r M' ⟨rfl, σ1, rfl, h1, s1⟩
  simp only [fi_const, fi_iload, fi_aload, fi_istore, fi_astore, fi_iinc, fi_bin, fi_div, fi_un, fi_dup, fi_dup2, fi_pop, fi_if, fi_cmp, fi_getf, fi_putf, fi_putr, fi_ald, fi_ast, fi_alen, fi_iret, fi_zret, fi_vret, fi_cut, fi_no, fi_s0, fi_s1, fi_s2, fi_s3, fi_s4, fi_v0, fi_v1, fi_v2, fi_v3, fi_v4, fi_v5, fi_n0, fi_n1, fi_n2, fi_mm, fi_stat, fi_alds, fi_tsw, List.getElem?_cons_zero, List.getElem?_cons_succ, List.set_cons_zero, List.set_cons_succ, List.length_cons, List.length_nil, Option.toList_some, Option.toList_none, List.cons_append, List.nil_append, Value.category, true_and, k_0, k_1, k_2, k_3, k_4, false_implies, true_implies, reduceCtorEq, fi_i2l, fi_last, fi_lconst, hO]
  exact ⟨i0, rfl, σ1, rfl, h1, s1⟩
theorem y_locationProperty (hX : shX S) (hl : g.1.stackTraces = false) {x z : Int32} (hb : x < 0 ∨ ¬ x < σ 2 0) : fh_Ct g m_L_locationProperty hh_L_locationProperty [.ref 0, .int x, .int z, .ref 69] ((S, fr), σ, τ) (hbQ S τ σ) := by
  intro d hd
  have hd' : 10 ≤ d := hd
  refine fh_enter (by decide) (by simp [fs_ok]) (Nat.le_of_ble_eq_true rfl) hd ?_
  refine fh_aload_n dL_locationProperty_0 rfl rfl ?_
  refine fh_iconst (v := 0) dL_locationProperty_1 rfl ?_
  refine fh_aload_n dL_locationProperty_2 rfl rfl ?_
  refine fh_iload_n dL_locationProperty_3 rfl rfl ?_
  refine fh_iload_n dL_locationProperty_4 rfl rfl ?_
  exact fh_bad (μ' := fx_i 9 m_X8_locationProperty) (d' := d - 1) (As := [.int x, .int z]) (rest := [.int 0, .ref 69]) (k := 0) mv_X8_locationProperty q_987 (by omega) rfl ⟨by decide, by decide⟩ dL_locationProperty_5 hX.1 (x_locationProperty hX hl z hb (by omega)) (by decide) rfl (by decide) (by decide) qx_io rfl (Or.inr ⟨4, dL_locationProperty_13, by decide, rfl⟩) dL_locationProperty_15 dL_locationProperty_16 ⟨rfl, rfl⟩
theorem h_feeOf (hX : shX S) (hO : S[69]? = some (.inl (.long, 1))) {x y : Int32} (ha : askC g S fr τ V nL nA nS kp nb m_X8_feeOf [.ref 0, .int x] y) (h : IC σ V nL nA nS kp nb) : fh_Ct g m_L_feeOf hh_L_feeOf [.ref 0, .int x, .ref 69] ((S, fr), σ, τ) (hgQ S fr τ σ V nL nA nS kp nb y) := by
  intro d hd
  have i0 : vp_in 0 1 := pk_in 0 1 (by decide) (by decide) (by decide)
  refine fh_enter (by decide) (by simp [fs_ok]) (Nat.le_of_ble_eq_true rfl) hd (fh_of (S_L_feeOf_0 ?_))
  show T_L_feeOf_0 g d _ [.ref 0, .int x, .ref 69, .null] [] _
  simp only [T_L_feeOf_0, fi_const, fi_iload, fi_aload, fi_istore, fi_astore, fi_iinc, fi_bin, fi_div, fi_un, fi_dup, fi_dup2, fi_pop, fi_if, fi_cmp, fi_getf, fi_putf, fi_putr, fi_ald, fi_ast, fi_alen, fi_iret, fi_zret, fi_vret, fi_cut, fi_no, fi_s0, fi_s1, fi_s2, fi_s3, fi_s4, fi_v0, fi_v1, fi_v2, fi_v3, fi_v4, fi_v5, fi_n0, fi_n1, fi_n2, fi_mm, fi_stat, fi_alds, fi_tsw, List.getElem?_cons_zero, List.getElem?_cons_succ, List.set_cons_zero, List.set_cons_succ, List.length_cons, List.length_nil, Option.toList_some, Option.toList_none, List.cons_append, List.nil_append, Value.category, true_and, k_0, k_1, k_2, k_3, k_4, false_implies, true_implies, reduceCtorEq, fi_i2l, fi_last, fi_lconst]
  refine ⟨by decide, ⟨_, hX.1⟩, (ha σ h).mono ?_⟩
  rintro r M' ⟨rfl, σ1, rfl, h1, s1⟩
  simp only [fi_const, fi_iload, fi_aload, fi_istore, fi_astore, fi_iinc, fi_bin, fi_div, fi_un, fi_dup, fi_dup2, fi_pop, fi_if, fi_cmp, fi_getf, fi_putf, fi_putr, fi_ald, fi_ast, fi_alen, fi_iret, fi_zret, fi_vret, fi_cut, fi_no, fi_s0, fi_s1, fi_s2, fi_s3, fi_s4, fi_v0, fi_v1, fi_v2, fi_v3, fi_v4, fi_v5, fi_n0, fi_n1, fi_n2, fi_mm, fi_stat, fi_alds, fi_tsw, List.getElem?_cons_zero, List.getElem?_cons_succ, List.set_cons_zero, List.set_cons_succ, List.length_cons, List.length_nil, Option.toList_some, Option.toList_none, List.cons_append, List.nil_append, Value.category, true_and, k_0, k_1, k_2, k_3, k_4, false_implies, true_implies, reduceCtorEq, fi_i2l, fi_last, fi_lconst, hO]
  exact ⟨i0, rfl, σ1, rfl, h1, s1⟩
theorem y_feeOf (hX : shX S) (hl : g.1.stackTraces = false) {x : Int32} (hb : x < 0 ∨ ¬ x < σ 2 4) : fh_Ct g m_L_feeOf hh_L_feeOf [.ref 0, .int x, .ref 69] ((S, fr), σ, τ) (hbQ S τ σ) := by
  intro d hd
  have hd' : 10 ≤ d := hd
  refine fh_enter (by decide) (by simp [fs_ok]) (Nat.le_of_ble_eq_true rfl) hd ?_
  refine fh_aload_n dL_feeOf_0 rfl rfl ?_
  refine fh_iconst (v := 0) dL_feeOf_1 rfl ?_
  refine fh_aload_n dL_feeOf_2 rfl rfl ?_
  refine fh_iload_n dL_feeOf_3 rfl rfl ?_
  exact fh_bad (μ' := fx_i 9 m_X8_feeOf) (d' := d - 1) (As := [.int x]) (rest := [.int 0, .ref 69]) (k := 0) mv_X8_feeOf q_1062 (by omega) rfl ⟨by decide, by decide⟩ dL_feeOf_4 hX.1 (x_feeOf hX hl hb (by omega)) (by decide) rfl (by decide) (by decide) qx_io rfl (Or.inl ⟨3, dL_feeOf_12, by decide, rfl⟩) dL_feeOf_13 dL_feeOf_14 ⟨rfl, rfl⟩
theorem h_sceneProperty (hX : shX S) (hO : S[69]? = some (.inl (.long, 1))) {x z y : Int32} (ha : askC g S fr τ V nL nA nS kp nb m_X8_sceneProperty [.ref 0, .int x, .int z] y) (h : IC σ V nL nA nS kp nb) : fh_Ct g m_L_sceneProperty hh_L_sceneProperty [.ref 0, .int x, .int z, .ref 69] ((S, fr), σ, τ) (hgQ S fr τ σ V nL nA nS kp nb y) := by
  intro d hd
  have i0 : vp_in 0 1 := pk_in 0 1 (by decide) (by decide) (by decide)
  refine fh_enter (by decide) (by simp [fs_ok]) (Nat.le_of_ble_eq_true rfl) hd (fh_of (S_L_sceneProperty_0 ?_))
  show T_L_sceneProperty_0 g d _ [.ref 0, .int x, .int z, .ref 69, .null] [] _
  simp only [T_L_sceneProperty_0, fi_const, fi_iload, fi_aload, fi_istore, fi_astore, fi_iinc, fi_bin, fi_div, fi_un, fi_dup, fi_dup2, fi_pop, fi_if, fi_cmp, fi_getf, fi_putf, fi_putr, fi_ald, fi_ast, fi_alen, fi_iret, fi_zret, fi_vret, fi_cut, fi_no, fi_s0, fi_s1, fi_s2, fi_s3, fi_s4, fi_v0, fi_v1, fi_v2, fi_v3, fi_v4, fi_v5, fi_n0, fi_n1, fi_n2, fi_mm, fi_stat, fi_alds, fi_tsw, List.getElem?_cons_zero, List.getElem?_cons_succ, List.set_cons_zero, List.set_cons_succ, List.length_cons, List.length_nil, Option.toList_some, Option.toList_none, List.cons_append, List.nil_append, Value.category, true_and, k_0, k_1, k_2, k_3, k_4, false_implies, true_implies, reduceCtorEq, fi_i2l, fi_last, fi_lconst]
  refine ⟨by decide, ⟨_, hX.1⟩, (ha σ h).mono ?_⟩
  rintro r M' ⟨rfl, σ1, rfl, h1, s1⟩
  simp only [fi_const, fi_iload, fi_aload, fi_istore, fi_astore, fi_iinc, fi_bin, fi_div, fi_un, fi_dup, fi_dup2, fi_pop, fi_if, fi_cmp, fi_getf, fi_putf, fi_putr, fi_ald, fi_ast, fi_alen, fi_iret, fi_zret, fi_vret, fi_cut, fi_no, fi_s0, fi_s1, fi_s2, fi_s3, fi_s4, fi_v0, fi_v1, fi_v2, fi_v3, fi_v4, fi_v5, fi_n0, fi_n1, fi_n2, fi_mm, fi_stat, fi_alds, fi_tsw, List.getElem?_cons_zero, List.getElem?_cons_succ, List.set_cons_zero, List.set_cons_succ, List.length_cons, List.length_nil, Option.toList_some, Option.toList_none, List.cons_append, List.nil_append, Value.category, true_and, k_0, k_1, k_2, k_3, k_4, false_implies, true_implies, reduceCtorEq, fi_i2l, fi_last, fi_lconst, hO]
  exact ⟨i0, rfl, σ1, rfl, h1, s1⟩
theorem y_sceneProperty (hX : shX S) (hl : g.1.stackTraces = false) {x z : Int32} (hb : x < 0 ∨ ¬ x < σ 2 7) : fh_Ct g m_L_sceneProperty hh_L_sceneProperty [.ref 0, .int x, .int z, .ref 69] ((S, fr), σ, τ) (hbQ S τ σ) := by
  intro d hd
  have hd' : 10 ≤ d := hd
  refine fh_enter (by decide) (by simp [fs_ok]) (Nat.le_of_ble_eq_true rfl) hd ?_
  refine fh_aload_n dL_sceneProperty_0 rfl rfl ?_
  refine fh_iconst (v := 0) dL_sceneProperty_1 rfl ?_
  refine fh_aload_n dL_sceneProperty_2 rfl rfl ?_
  refine fh_iload_n dL_sceneProperty_3 rfl rfl ?_
  refine fh_iload_n dL_sceneProperty_4 rfl rfl ?_
  exact fh_bad (μ' := fx_i 9 m_X8_sceneProperty) (d' := d - 1) (As := [.int x, .int z]) (rest := [.int 0, .ref 69]) (k := 0) mv_X8_sceneProperty q_1069 (by omega) rfl ⟨by decide, by decide⟩ dL_sceneProperty_5 hX.1 (x_sceneProperty hX hl z hb (by omega)) (by decide) rfl (by decide) (by decide) qx_io rfl (Or.inr ⟨4, dL_sceneProperty_13, by decide, rfl⟩) dL_sceneProperty_15 dL_sceneProperty_16 ⟨rfl, rfl⟩
theorem h_dayOf (hX : shX S) (hO : S[69]? = some (.inl (.long, 1))) {x y : Int32} (ha : askC g S fr τ V nL nA nS kp nb m_X8_dayOf [.ref 0, .int x] y) (h : IC σ V nL nA nS kp nb) : fh_Ct g m_L_dayOf hh_L_dayOf [.ref 0, .int x, .ref 69] ((S, fr), σ, τ) (hgQ S fr τ σ V nL nA nS kp nb y) := by
  intro d hd
  have i0 : vp_in 0 1 := pk_in 0 1 (by decide) (by decide) (by decide)
  refine fh_enter (by decide) (by simp [fs_ok]) (Nat.le_of_ble_eq_true rfl) hd (fh_of (S_L_dayOf_0 ?_))
  show T_L_dayOf_0 g d _ [.ref 0, .int x, .ref 69, .null] [] _
  simp only [T_L_dayOf_0, fi_const, fi_iload, fi_aload, fi_istore, fi_astore, fi_iinc, fi_bin, fi_div, fi_un, fi_dup, fi_dup2, fi_pop, fi_if, fi_cmp, fi_getf, fi_putf, fi_putr, fi_ald, fi_ast, fi_alen, fi_iret, fi_zret, fi_vret, fi_cut, fi_no, fi_s0, fi_s1, fi_s2, fi_s3, fi_s4, fi_v0, fi_v1, fi_v2, fi_v3, fi_v4, fi_v5, fi_n0, fi_n1, fi_n2, fi_mm, fi_stat, fi_alds, fi_tsw, List.getElem?_cons_zero, List.getElem?_cons_succ, List.set_cons_zero, List.set_cons_succ, List.length_cons, List.length_nil, Option.toList_some, Option.toList_none, List.cons_append, List.nil_append, Value.category, true_and, k_0, k_1, k_2, k_3, k_4, false_implies, true_implies, reduceCtorEq, fi_i2l, fi_last, fi_lconst]
  refine ⟨by decide, ⟨_, hX.1⟩, (ha σ h).mono ?_⟩
  rintro r M' ⟨rfl, σ1, rfl, h1, s1⟩
  simp only [fi_const, fi_iload, fi_aload, fi_istore, fi_astore, fi_iinc, fi_bin, fi_div, fi_un, fi_dup, fi_dup2, fi_pop, fi_if, fi_cmp, fi_getf, fi_putf, fi_putr, fi_ald, fi_ast, fi_alen, fi_iret, fi_zret, fi_vret, fi_cut, fi_no, fi_s0, fi_s1, fi_s2, fi_s3, fi_s4, fi_v0, fi_v1, fi_v2, fi_v3, fi_v4, fi_v5, fi_n0, fi_n1, fi_n2, fi_mm, fi_stat, fi_alds, fi_tsw, List.getElem?_cons_zero, List.getElem?_cons_succ, List.set_cons_zero, List.set_cons_succ, List.length_cons, List.length_nil, Option.toList_some, Option.toList_none, List.cons_append, List.nil_append, Value.category, true_and, k_0, k_1, k_2, k_3, k_4, false_implies, true_implies, reduceCtorEq, fi_i2l, fi_last, fi_lconst, hO]
  exact ⟨i0, rfl, σ1, rfl, h1, s1⟩
theorem y_dayOf (hX : shX S) (hl : g.1.stackTraces = false) {x : Int32} (hb : x < 0 ∨ ¬ x < σ 2 7) : fh_Ct g m_L_dayOf hh_L_dayOf [.ref 0, .int x, .ref 69] ((S, fr), σ, τ) (hbQ S τ σ) := by
  intro d hd
  have hd' : 10 ≤ d := hd
  refine fh_enter (by decide) (by simp [fs_ok]) (Nat.le_of_ble_eq_true rfl) hd ?_
  refine fh_aload_n dL_dayOf_0 rfl rfl ?_
  refine fh_iconst (v := 0) dL_dayOf_1 rfl ?_
  refine fh_aload_n dL_dayOf_2 rfl rfl ?_
  refine fh_iload_n dL_dayOf_3 rfl rfl ?_
  exact fh_bad (μ' := fx_i 9 m_X8_dayOf) (d' := d - 1) (As := [.int x]) (rest := [.int 0, .ref 69]) (k := 0) mv_X8_dayOf q_1076 (by omega) rfl ⟨by decide, by decide⟩ dL_dayOf_4 hX.1 (x_dayOf hX hl hb (by omega)) (by decide) rfl (by decide) (by decide) qx_io rfl (Or.inl ⟨3, dL_dayOf_12, by decide, rfl⟩) dL_dayOf_13 dL_dayOf_14 ⟨rfl, rfl⟩
theorem h_scenesOn (hX : shX S) (hO : S[69]? = some (.inl (.long, 1))) {x y : Int32} (ha : askC g S fr τ V nL nA nS kp nb m_X8_scenesOn [.ref 0, .int x] y) (h : IC σ V nL nA nS kp nb) : fh_Ct g m_L_scenesOn hh_L_scenesOn [.ref 0, .int x, .ref 69] ((S, fr), σ, τ) (hgQ S fr τ σ V nL nA nS kp nb y) := by
  intro d hd
  have i0 : vp_in 0 1 := pk_in 0 1 (by decide) (by decide) (by decide)
  refine fh_enter (by decide) (by simp [fs_ok]) (Nat.le_of_ble_eq_true rfl) hd (fh_of (S_L_scenesOn_0 ?_))
  show T_L_scenesOn_0 g d _ [.ref 0, .int x, .ref 69, .null] [] _
  simp only [T_L_scenesOn_0, fi_const, fi_iload, fi_aload, fi_istore, fi_astore, fi_iinc, fi_bin, fi_div, fi_un, fi_dup, fi_dup2, fi_pop, fi_if, fi_cmp, fi_getf, fi_putf, fi_putr, fi_ald, fi_ast, fi_alen, fi_iret, fi_zret, fi_vret, fi_cut, fi_no, fi_s0, fi_s1, fi_s2, fi_s3, fi_s4, fi_v0, fi_v1, fi_v2, fi_v3, fi_v4, fi_v5, fi_n0, fi_n1, fi_n2, fi_mm, fi_stat, fi_alds, fi_tsw, List.getElem?_cons_zero, List.getElem?_cons_succ, List.set_cons_zero, List.set_cons_succ, List.length_cons, List.length_nil, Option.toList_some, Option.toList_none, List.cons_append, List.nil_append, Value.category, true_and, k_0, k_1, k_2, k_3, k_4, false_implies, true_implies, reduceCtorEq, fi_i2l, fi_last, fi_lconst]
  refine ⟨by decide, ⟨_, hX.1⟩, (ha σ h).mono ?_⟩
  rintro r M' ⟨rfl, σ1, rfl, h1, s1⟩
  simp only [fi_const, fi_iload, fi_aload, fi_istore, fi_astore, fi_iinc, fi_bin, fi_div, fi_un, fi_dup, fi_dup2, fi_pop, fi_if, fi_cmp, fi_getf, fi_putf, fi_putr, fi_ald, fi_ast, fi_alen, fi_iret, fi_zret, fi_vret, fi_cut, fi_no, fi_s0, fi_s1, fi_s2, fi_s3, fi_s4, fi_v0, fi_v1, fi_v2, fi_v3, fi_v4, fi_v5, fi_n0, fi_n1, fi_n2, fi_mm, fi_stat, fi_alds, fi_tsw, List.getElem?_cons_zero, List.getElem?_cons_succ, List.set_cons_zero, List.set_cons_succ, List.length_cons, List.length_nil, Option.toList_some, Option.toList_none, List.cons_append, List.nil_append, Value.category, true_and, k_0, k_1, k_2, k_3, k_4, false_implies, true_implies, reduceCtorEq, fi_i2l, fi_last, fi_lconst, hO]
  exact ⟨i0, rfl, σ1, rfl, h1, s1⟩
theorem y_scenesOn (hX : shX S) (hl : g.1.stackTraces = false) {x : Int32} (hb : x < 0 ∨ ¬ x < 12) : fh_Ct g m_L_scenesOn hh_L_scenesOn [.ref 0, .int x, .ref 69] ((S, fr), σ, τ) (hbQ S τ σ) := by
  intro d hd
  have hd' : 10 ≤ d := hd
  refine fh_enter (by decide) (by simp [fs_ok]) (Nat.le_of_ble_eq_true rfl) hd ?_
  refine fh_aload_n dL_scenesOn_0 rfl rfl ?_
  refine fh_iconst (v := 0) dL_scenesOn_1 rfl ?_
  refine fh_aload_n dL_scenesOn_2 rfl rfl ?_
  refine fh_iload_n dL_scenesOn_3 rfl rfl ?_
  exact fh_bad (μ' := fx_i 9 m_X8_scenesOn) (d' := d - 1) (As := [.int x]) (rest := [.int 0, .ref 69]) (k := 0) mv_X8_scenesOn q_1083 (by omega) rfl ⟨by decide, by decide⟩ dL_scenesOn_4 hX.1 (x_scenesOn hl hb (by omega)) (by decide) rfl (by decide) (by decide) qx_io rfl (Or.inl ⟨3, dL_scenesOn_12, by decide, rfl⟩) dL_scenesOn_13 dL_scenesOn_14 ⟨rfl, rfl⟩
theorem h_locationOn (hX : shX S) (hO : S[69]? = some (.inl (.long, 1))) {x y : Int32} (ha : askC g S fr τ V nL nA nS kp nb m_X8_locationOn [.ref 0, .int x] y) (h : IC σ V nL nA nS kp nb) : fh_Ct g m_L_locationOn hh_L_locationOn [.ref 0, .int x, .ref 69] ((S, fr), σ, τ) (hgQ S fr τ σ V nL nA nS kp nb y) := by
  intro d hd
  have i0 : vp_in 0 1 := pk_in 0 1 (by decide) (by decide) (by decide)
  refine fh_enter (by decide) (by simp [fs_ok]) (Nat.le_of_ble_eq_true rfl) hd (fh_of (S_L_locationOn_0 ?_))
  show T_L_locationOn_0 g d _ [.ref 0, .int x, .ref 69, .null] [] _
  simp only [T_L_locationOn_0, fi_const, fi_iload, fi_aload, fi_istore, fi_astore, fi_iinc, fi_bin, fi_div, fi_un, fi_dup, fi_dup2, fi_pop, fi_if, fi_cmp, fi_getf, fi_putf, fi_putr, fi_ald, fi_ast, fi_alen, fi_iret, fi_zret, fi_vret, fi_cut, fi_no, fi_s0, fi_s1, fi_s2, fi_s3, fi_s4, fi_v0, fi_v1, fi_v2, fi_v3, fi_v4, fi_v5, fi_n0, fi_n1, fi_n2, fi_mm, fi_stat, fi_alds, fi_tsw, List.getElem?_cons_zero, List.getElem?_cons_succ, List.set_cons_zero, List.set_cons_succ, List.length_cons, List.length_nil, Option.toList_some, Option.toList_none, List.cons_append, List.nil_append, Value.category, true_and, k_0, k_1, k_2, k_3, k_4, false_implies, true_implies, reduceCtorEq, fi_i2l, fi_last, fi_lconst]
  refine ⟨by decide, ⟨_, hX.1⟩, (ha σ h).mono ?_⟩
  rintro r M' ⟨rfl, σ1, rfl, h1, s1⟩
  simp only [fi_const, fi_iload, fi_aload, fi_istore, fi_astore, fi_iinc, fi_bin, fi_div, fi_un, fi_dup, fi_dup2, fi_pop, fi_if, fi_cmp, fi_getf, fi_putf, fi_putr, fi_ald, fi_ast, fi_alen, fi_iret, fi_zret, fi_vret, fi_cut, fi_no, fi_s0, fi_s1, fi_s2, fi_s3, fi_s4, fi_v0, fi_v1, fi_v2, fi_v3, fi_v4, fi_v5, fi_n0, fi_n1, fi_n2, fi_mm, fi_stat, fi_alds, fi_tsw, List.getElem?_cons_zero, List.getElem?_cons_succ, List.set_cons_zero, List.set_cons_succ, List.length_cons, List.length_nil, Option.toList_some, Option.toList_none, List.cons_append, List.nil_append, Value.category, true_and, k_0, k_1, k_2, k_3, k_4, false_implies, true_implies, reduceCtorEq, fi_i2l, fi_last, fi_lconst, hO]
  exact ⟨i0, rfl, σ1, rfl, h1, s1⟩
theorem y_locationOn (hX : shX S) (hl : g.1.stackTraces = false) {x : Int32} (hb : x < 0 ∨ ¬ x < 12) : fh_Ct g m_L_locationOn hh_L_locationOn [.ref 0, .int x, .ref 69] ((S, fr), σ, τ) (hbQ S τ σ) := by
  intro d hd
  have hd' : 10 ≤ d := hd
  refine fh_enter (by decide) (by simp [fs_ok]) (Nat.le_of_ble_eq_true rfl) hd ?_
  refine fh_aload_n dL_locationOn_0 rfl rfl ?_
  refine fh_iconst (v := 0) dL_locationOn_1 rfl ?_
  refine fh_aload_n dL_locationOn_2 rfl rfl ?_
  refine fh_iload_n dL_locationOn_3 rfl rfl ?_
  exact fh_bad (μ' := fx_i 9 m_X8_locationOn) (d' := d - 1) (As := [.int x]) (rest := [.int 0, .ref 69]) (k := 0) mv_X8_locationOn q_1090 (by omega) rfl ⟨by decide, by decide⟩ dL_locationOn_4 hX.1 (x_locationOn hl hb (by omega)) (by decide) rfl (by decide) (by decide) qx_io rfl (Or.inl ⟨3, dL_locationOn_12, by decide, rfl⟩) dL_locationOn_13 dL_locationOn_14 ⟨rfl, rfl⟩
theorem h_isNight (hX : shX S) (hO : S[69]? = some (.inl (.long, 1))) {x y : Int32} (hy : y = 0 ∨ y = 1) (ha : askC g S fr τ V nL nA nS kp nb m_X8_isNight [.ref 0, .int x] y) (h : IC σ V nL nA nS kp nb) : fh_Ct g m_L_isNight hh_L_isNight [.ref 0, .int x, .ref 69] ((S, fr), σ, τ) (hgQ S fr τ σ V nL nA nS kp nb y) := by
  intro d hd
  have i0 : vp_in 0 1 := pk_in 0 1 (by decide) (by decide) (by decide)
  refine fh_enter (by decide) (by simp [fs_ok]) (Nat.le_of_ble_eq_true rfl) hd (fh_of (S_L_isNight_0 ?_))
  show T_L_isNight_0 g d _ [.ref 0, .int x, .ref 69, .null] [] _
  simp only [T_L_isNight_0, fi_const, fi_iload, fi_aload, fi_istore, fi_astore, fi_iinc, fi_bin, fi_div, fi_un, fi_dup, fi_dup2, fi_pop, fi_if, fi_cmp, fi_getf, fi_putf, fi_putr, fi_ald, fi_ast, fi_alen, fi_iret, fi_zret, fi_vret, fi_cut, fi_no, fi_s0, fi_s1, fi_s2, fi_s3, fi_s4, fi_v0, fi_v1, fi_v2, fi_v3, fi_v4, fi_v5, fi_n0, fi_n1, fi_n2, fi_mm, fi_stat, fi_alds, fi_tsw, List.getElem?_cons_zero, List.getElem?_cons_succ, List.set_cons_zero, List.set_cons_succ, List.length_cons, List.length_nil, Option.toList_some, Option.toList_none, List.cons_append, List.nil_append, Value.category, true_and, k_0, k_1, k_2, k_3, k_4, false_implies, true_implies, reduceCtorEq, fi_i2l, fi_last, fi_lconst]
  refine ⟨by decide, ⟨_, hX.1⟩, (ha σ h).mono ?_⟩
  rintro r M' ⟨rfl, σ1, rfl, h1, s1⟩
  simp only [fi_const, fi_iload, fi_aload, fi_istore, fi_astore, fi_iinc, fi_bin, fi_div, fi_un, fi_dup, fi_dup2, fi_pop, fi_if, fi_cmp, fi_getf, fi_putf, fi_putr, fi_ald, fi_ast, fi_alen, fi_iret, fi_zret, fi_vret, fi_cut, fi_no, fi_s0, fi_s1, fi_s2, fi_s3, fi_s4, fi_v0, fi_v1, fi_v2, fi_v3, fi_v4, fi_v5, fi_n0, fi_n1, fi_n2, fi_mm, fi_stat, fi_alds, fi_tsw, List.getElem?_cons_zero, List.getElem?_cons_succ, List.set_cons_zero, List.set_cons_succ, List.length_cons, List.length_nil, Option.toList_some, Option.toList_none, List.cons_append, List.nil_append, Value.category, true_and, k_0, k_1, k_2, k_3, k_4, false_implies, true_implies, reduceCtorEq, fi_i2l, fi_last, fi_lconst, hO]
  refine ⟨fun q => ⟨i0, rfl, σ1, ?_, h1, s1⟩, fun q => ⟨i0, rfl, σ1, ?_, h1, s1⟩⟩
  · rw [q]; rfl
  · rcases hy with w | w
    · exact absurd w q
    · rw [w]; rfl
theorem y_isNight (hX : shX S) (hl : g.1.stackTraces = false) {x : Int32} (hb : x < 0 ∨ ¬ x < 12) : fh_Ct g m_L_isNight hh_L_isNight [.ref 0, .int x, .ref 69] ((S, fr), σ, τ) (hbQ S τ σ) := by
  intro d hd
  have hd' : 10 ≤ d := hd
  refine fh_enter (by decide) (by simp [fs_ok]) (Nat.le_of_ble_eq_true rfl) hd ?_
  refine fh_aload_n dL_isNight_0 rfl rfl ?_
  refine fh_iconst (v := 0) dL_isNight_1 rfl ?_
  refine fh_aload_n dL_isNight_2 rfl rfl ?_
  refine fh_iload_n dL_isNight_3 rfl rfl ?_
  exact fh_bad (μ' := fx_i 9 m_X8_isNight) (d' := d - 1) (As := [.int x]) (rest := [.int 0, .ref 69]) (k := 0) mv_X8_isNight q_1097 (by omega) rfl ⟨by decide, by decide⟩ dL_isNight_4 hX.1 (x_isNight hl hb (by omega)) (by decide) rfl (by decide) (by decide) qx_io rfl (Or.inl ⟨3, dL_isNight_19, by decide, rfl⟩) dL_isNight_20 dL_isNight_21 ⟨rfl, rfl⟩
theorem h_lengthOn (hX : shX S) (hO : S[69]? = some (.inl (.long, 1))) {x y : Int32} (ha : askC g S fr τ V nL nA nS kp nb m_X8_lengthOn [.ref 0, .int x] y) (h : IC σ V nL nA nS kp nb) : fh_Ct g m_L_lengthOn hh_L_lengthOn [.ref 0, .int x, .ref 69] ((S, fr), σ, τ) (hgQ S fr τ σ V nL nA nS kp nb y) := by
  intro d hd
  have i0 : vp_in 0 1 := pk_in 0 1 (by decide) (by decide) (by decide)
  refine fh_enter (by decide) (by simp [fs_ok]) (Nat.le_of_ble_eq_true rfl) hd (fh_of (S_L_lengthOn_0 ?_))
  show T_L_lengthOn_0 g d _ [.ref 0, .int x, .ref 69, .null] [] _
  simp only [T_L_lengthOn_0, fi_const, fi_iload, fi_aload, fi_istore, fi_astore, fi_iinc, fi_bin, fi_div, fi_un, fi_dup, fi_dup2, fi_pop, fi_if, fi_cmp, fi_getf, fi_putf, fi_putr, fi_ald, fi_ast, fi_alen, fi_iret, fi_zret, fi_vret, fi_cut, fi_no, fi_s0, fi_s1, fi_s2, fi_s3, fi_s4, fi_v0, fi_v1, fi_v2, fi_v3, fi_v4, fi_v5, fi_n0, fi_n1, fi_n2, fi_mm, fi_stat, fi_alds, fi_tsw, List.getElem?_cons_zero, List.getElem?_cons_succ, List.set_cons_zero, List.set_cons_succ, List.length_cons, List.length_nil, Option.toList_some, Option.toList_none, List.cons_append, List.nil_append, Value.category, true_and, k_0, k_1, k_2, k_3, k_4, false_implies, true_implies, reduceCtorEq, fi_i2l, fi_last, fi_lconst]
  refine ⟨by decide, ⟨_, hX.1⟩, (ha σ h).mono ?_⟩
  rintro r M' ⟨rfl, σ1, rfl, h1, s1⟩
  simp only [fi_const, fi_iload, fi_aload, fi_istore, fi_astore, fi_iinc, fi_bin, fi_div, fi_un, fi_dup, fi_dup2, fi_pop, fi_if, fi_cmp, fi_getf, fi_putf, fi_putr, fi_ald, fi_ast, fi_alen, fi_iret, fi_zret, fi_vret, fi_cut, fi_no, fi_s0, fi_s1, fi_s2, fi_s3, fi_s4, fi_v0, fi_v1, fi_v2, fi_v3, fi_v4, fi_v5, fi_n0, fi_n1, fi_n2, fi_mm, fi_stat, fi_alds, fi_tsw, List.getElem?_cons_zero, List.getElem?_cons_succ, List.set_cons_zero, List.set_cons_succ, List.length_cons, List.length_nil, Option.toList_some, Option.toList_none, List.cons_append, List.nil_append, Value.category, true_and, k_0, k_1, k_2, k_3, k_4, false_implies, true_implies, reduceCtorEq, fi_i2l, fi_last, fi_lconst, hO]
  exact ⟨i0, rfl, σ1, rfl, h1, s1⟩
theorem y_lengthOn (hX : shX S) (hl : g.1.stackTraces = false) {x : Int32} (hb : x < 0 ∨ ¬ x < 12) : fh_Ct g m_L_lengthOn hh_L_lengthOn [.ref 0, .int x, .ref 69] ((S, fr), σ, τ) (hbQ S τ σ) := by
  intro d hd
  have hd' : 10 ≤ d := hd
  refine fh_enter (by decide) (by simp [fs_ok]) (Nat.le_of_ble_eq_true rfl) hd ?_
  refine fh_aload_n dL_lengthOn_0 rfl rfl ?_
  refine fh_iconst (v := 0) dL_lengthOn_1 rfl ?_
  refine fh_aload_n dL_lengthOn_2 rfl rfl ?_
  refine fh_iload_n dL_lengthOn_3 rfl rfl ?_
  exact fh_bad (μ' := fx_i 9 m_X8_lengthOn) (d' := d - 1) (As := [.int x]) (rest := [.int 0, .ref 69]) (k := 0) mv_X8_lengthOn q_1104 (by omega) rfl ⟨by decide, by decide⟩ dL_lengthOn_4 hX.1 (x_lengthOn hl hb (by omega)) (by decide) rfl (by decide) (by decide) qx_io rfl (Or.inl ⟨3, dL_lengthOn_12, by decide, rfl⟩) dL_lengthOn_13 dL_lengthOn_14 ⟨rfl, rfl⟩
theorem h_castOn (hX : shX S) (hO : S[69]? = some (.inl (.long, 1))) {x y : Int32} (ha : askC g S fr τ V nL nA nS kp nb m_X8_castOn [.ref 0, .int x] y) (h : IC σ V nL nA nS kp nb) : fh_Ct g m_L_castOn hh_L_castOn [.ref 0, .int x, .ref 69] ((S, fr), σ, τ) (hgQ S fr τ σ V nL nA nS kp nb y) := by
  intro d hd
  have i0 : vp_in 0 1 := pk_in 0 1 (by decide) (by decide) (by decide)
  refine fh_enter (by decide) (by simp [fs_ok]) (Nat.le_of_ble_eq_true rfl) hd (fh_of (S_L_castOn_0 ?_))
  show T_L_castOn_0 g d _ [.ref 0, .int x, .ref 69, .null] [] _
  simp only [T_L_castOn_0, fi_const, fi_iload, fi_aload, fi_istore, fi_astore, fi_iinc, fi_bin, fi_div, fi_un, fi_dup, fi_dup2, fi_pop, fi_if, fi_cmp, fi_getf, fi_putf, fi_putr, fi_ald, fi_ast, fi_alen, fi_iret, fi_zret, fi_vret, fi_cut, fi_no, fi_s0, fi_s1, fi_s2, fi_s3, fi_s4, fi_v0, fi_v1, fi_v2, fi_v3, fi_v4, fi_v5, fi_n0, fi_n1, fi_n2, fi_mm, fi_stat, fi_alds, fi_tsw, List.getElem?_cons_zero, List.getElem?_cons_succ, List.set_cons_zero, List.set_cons_succ, List.length_cons, List.length_nil, Option.toList_some, Option.toList_none, List.cons_append, List.nil_append, Value.category, true_and, k_0, k_1, k_2, k_3, k_4, false_implies, true_implies, reduceCtorEq, fi_i2l, fi_last, fi_lconst]
  refine ⟨by decide, ⟨_, hX.1⟩, (ha σ h).mono ?_⟩
  rintro r M' ⟨rfl, σ1, rfl, h1, s1⟩
  simp only [fi_const, fi_iload, fi_aload, fi_istore, fi_astore, fi_iinc, fi_bin, fi_div, fi_un, fi_dup, fi_dup2, fi_pop, fi_if, fi_cmp, fi_getf, fi_putf, fi_putr, fi_ald, fi_ast, fi_alen, fi_iret, fi_zret, fi_vret, fi_cut, fi_no, fi_s0, fi_s1, fi_s2, fi_s3, fi_s4, fi_v0, fi_v1, fi_v2, fi_v3, fi_v4, fi_v5, fi_n0, fi_n1, fi_n2, fi_mm, fi_stat, fi_alds, fi_tsw, List.getElem?_cons_zero, List.getElem?_cons_succ, List.set_cons_zero, List.set_cons_succ, List.length_cons, List.length_nil, Option.toList_some, Option.toList_none, List.cons_append, List.nil_append, Value.category, true_and, k_0, k_1, k_2, k_3, k_4, false_implies, true_implies, reduceCtorEq, fi_i2l, fi_last, fi_lconst, hO]
  exact ⟨i0, rfl, σ1, rfl, h1, s1⟩
theorem y_castOn (hX : shX S) (hl : g.1.stackTraces = false) {x : Int32} (hb : x < 0 ∨ ¬ x < 12) : fh_Ct g m_L_castOn hh_L_castOn [.ref 0, .int x, .ref 69] ((S, fr), σ, τ) (hbQ S τ σ) := by
  intro d hd
  have hd' : 10 ≤ d := hd
  refine fh_enter (by decide) (by simp [fs_ok]) (Nat.le_of_ble_eq_true rfl) hd ?_
  refine fh_aload_n dL_castOn_0 rfl rfl ?_
  refine fh_iconst (v := 0) dL_castOn_1 rfl ?_
  refine fh_aload_n dL_castOn_2 rfl rfl ?_
  refine fh_iload_n dL_castOn_3 rfl rfl ?_
  exact fh_bad (μ' := fx_i 9 m_X8_castOn) (d' := d - 1) (As := [.int x]) (rest := [.int 0, .ref 69]) (k := 0) mv_X8_castOn q_1111 (by omega) rfl ⟨by decide, by decide⟩ dL_castOn_4 hX.1 (x_castOn hl hb (by omega)) (by decide) rfl (by decide) (by decide) qx_io rfl (Or.inl ⟨3, dL_castOn_12, by decide, rfl⟩) dL_castOn_13 dL_castOn_14 ⟨rfl, rfl⟩
theorem h_statusOf (hX : shX S) (hO : S[69]? = some (.inl (.long, 1))) {x z y : Int32} (ha : askC g S fr τ V nL nA nS kp nb m_X8_statusOf [.ref 0, .int x, .int z] y) (h : IC σ V nL nA nS kp nb) : fh_Ct g m_L_statusOf hh_L_statusOf [.ref 0, .int x, .int z, .ref 69] ((S, fr), σ, τ) (hgQ S fr τ σ V nL nA nS kp nb y) := by
  intro d hd
  have i0 : vp_in 0 1 := pk_in 0 1 (by decide) (by decide) (by decide)
  refine fh_enter (by decide) (by simp [fs_ok]) (Nat.le_of_ble_eq_true rfl) hd (fh_of (S_L_statusOf_0 ?_))
  show T_L_statusOf_0 g d _ [.ref 0, .int x, .int z, .ref 69, .null] [] _
  simp only [T_L_statusOf_0, fi_const, fi_iload, fi_aload, fi_istore, fi_astore, fi_iinc, fi_bin, fi_div, fi_un, fi_dup, fi_dup2, fi_pop, fi_if, fi_cmp, fi_getf, fi_putf, fi_putr, fi_ald, fi_ast, fi_alen, fi_iret, fi_zret, fi_vret, fi_cut, fi_no, fi_s0, fi_s1, fi_s2, fi_s3, fi_s4, fi_v0, fi_v1, fi_v2, fi_v3, fi_v4, fi_v5, fi_n0, fi_n1, fi_n2, fi_mm, fi_stat, fi_alds, fi_tsw, List.getElem?_cons_zero, List.getElem?_cons_succ, List.set_cons_zero, List.set_cons_succ, List.length_cons, List.length_nil, Option.toList_some, Option.toList_none, List.cons_append, List.nil_append, Value.category, true_and, k_0, k_1, k_2, k_3, k_4, false_implies, true_implies, reduceCtorEq, fi_i2l, fi_last, fi_lconst]
  refine ⟨by decide, ⟨_, hX.1⟩, (ha σ h).mono ?_⟩
  rintro r M' ⟨rfl, σ1, rfl, h1, s1⟩
  simp only [fi_const, fi_iload, fi_aload, fi_istore, fi_astore, fi_iinc, fi_bin, fi_div, fi_un, fi_dup, fi_dup2, fi_pop, fi_if, fi_cmp, fi_getf, fi_putf, fi_putr, fi_ald, fi_ast, fi_alen, fi_iret, fi_zret, fi_vret, fi_cut, fi_no, fi_s0, fi_s1, fi_s2, fi_s3, fi_s4, fi_v0, fi_v1, fi_v2, fi_v3, fi_v4, fi_v5, fi_n0, fi_n1, fi_n2, fi_mm, fi_stat, fi_alds, fi_tsw, List.getElem?_cons_zero, List.getElem?_cons_succ, List.set_cons_zero, List.set_cons_succ, List.length_cons, List.length_nil, Option.toList_some, Option.toList_none, List.cons_append, List.nil_append, Value.category, true_and, k_0, k_1, k_2, k_3, k_4, false_implies, true_implies, reduceCtorEq, fi_i2l, fi_last, fi_lconst, hO]
  exact ⟨i0, rfl, σ1, rfl, h1, s1⟩
theorem y_statusOf (hX : shX S) (hl : g.1.stackTraces = false) {x z : Int32} (hb : x < 0 ∨ ¬ x < σ 2 4) : fh_Ct g m_L_statusOf hh_L_statusOf [.ref 0, .int x, .int z, .ref 69] ((S, fr), σ, τ) (hbQ S τ σ) := by
  intro d hd
  have hd' : 10 ≤ d := hd
  refine fh_enter (by decide) (by simp [fs_ok]) (Nat.le_of_ble_eq_true rfl) hd ?_
  refine fh_aload_n dL_statusOf_0 rfl rfl ?_
  refine fh_iconst (v := 0) dL_statusOf_1 rfl ?_
  refine fh_aload_n dL_statusOf_2 rfl rfl ?_
  refine fh_iload_n dL_statusOf_3 rfl rfl ?_
  refine fh_iload_n dL_statusOf_4 rfl rfl ?_
  exact fh_bad (μ' := fx_i 9 m_X8_statusOf) (d' := d - 1) (As := [.int x, .int z]) (rest := [.int 0, .ref 69]) (k := 0) mv_X8_statusOf q_1118 (by omega) rfl ⟨by decide, by decide⟩ dL_statusOf_5 hX.1 (x_statusOf hX hl z hb (by omega)) (by decide) rfl (by decide) (by decide) qx_io rfl (Or.inr ⟨4, dL_statusOf_13, by decide, rfl⟩) dL_statusOf_15 dL_statusOf_16 ⟨rfl, rfl⟩
theorem y_statusOf2 (hX : shX S) (hl : g.1.stackTraces = false) {x z : Int32} (hb : ¬ x < 0 ∧ x < σ 2 4) (hz : z < 0 ∨ ¬ z < 12) : fh_Ct g m_L_statusOf hh_L_statusOf [.ref 0, .int x, .int z, .ref 69] ((S, fr), σ, τ) (hbQ S τ σ) := by
  intro d hd
  have hd' : 10 ≤ d := hd
  refine fh_enter (by decide) (by simp [fs_ok]) (Nat.le_of_ble_eq_true rfl) hd ?_
  refine fh_aload_n dL_statusOf_0 rfl rfl ?_
  refine fh_iconst (v := 0) dL_statusOf_1 rfl ?_
  refine fh_aload_n dL_statusOf_2 rfl rfl ?_
  refine fh_iload_n dL_statusOf_3 rfl rfl ?_
  refine fh_iload_n dL_statusOf_4 rfl rfl ?_
  exact fh_bad (μ' := fx_i 9 m_X8_statusOf) (d' := d - 1) (As := [.int x, .int z]) (rest := [.int 0, .ref 69]) (k := 0) mv_X8_statusOf q_1118 (by omega) rfl ⟨by decide, by decide⟩ dL_statusOf_5 hX.1 (x_statusOf2 hX hl hb hz (by omega)) (by decide) rfl (by decide) (by decide) qx_io rfl (Or.inr ⟨4, dL_statusOf_13, by decide, rfl⟩) dL_statusOf_15 dL_statusOf_16 ⟨rfl, rfl⟩
theorem h_firstDay (hX : shX S) (hO : S[69]? = some (.inl (.long, 1))) {x y : Int32} (ha : askC g S fr τ V nL nA nS kp nb m_X8_firstDay [.ref 0, .int x] y) (h : IC σ V nL nA nS kp nb) : fh_Ct g m_L_firstDay hh_L_firstDay [.ref 0, .int x, .ref 69] ((S, fr), σ, τ) (hgQ S fr τ σ V nL nA nS kp nb y) := by
  intro d hd
  have i0 : vp_in 0 1 := pk_in 0 1 (by decide) (by decide) (by decide)
  refine fh_enter (by decide) (by simp [fs_ok]) (Nat.le_of_ble_eq_true rfl) hd (fh_of (S_L_firstDay_0 ?_))
  show T_L_firstDay_0 g d _ [.ref 0, .int x, .ref 69, .null] [] _
  simp only [T_L_firstDay_0, fi_const, fi_iload, fi_aload, fi_istore, fi_astore, fi_iinc, fi_bin, fi_div, fi_un, fi_dup, fi_dup2, fi_pop, fi_if, fi_cmp, fi_getf, fi_putf, fi_putr, fi_ald, fi_ast, fi_alen, fi_iret, fi_zret, fi_vret, fi_cut, fi_no, fi_s0, fi_s1, fi_s2, fi_s3, fi_s4, fi_v0, fi_v1, fi_v2, fi_v3, fi_v4, fi_v5, fi_n0, fi_n1, fi_n2, fi_mm, fi_stat, fi_alds, fi_tsw, List.getElem?_cons_zero, List.getElem?_cons_succ, List.set_cons_zero, List.set_cons_succ, List.length_cons, List.length_nil, Option.toList_some, Option.toList_none, List.cons_append, List.nil_append, Value.category, true_and, k_0, k_1, k_2, k_3, k_4, false_implies, true_implies, reduceCtorEq, fi_i2l, fi_last, fi_lconst]
  refine ⟨by decide, ⟨_, hX.1⟩, (ha σ h).mono ?_⟩
  rintro r M' ⟨rfl, σ1, rfl, h1, s1⟩
  simp only [fi_const, fi_iload, fi_aload, fi_istore, fi_astore, fi_iinc, fi_bin, fi_div, fi_un, fi_dup, fi_dup2, fi_pop, fi_if, fi_cmp, fi_getf, fi_putf, fi_putr, fi_ald, fi_ast, fi_alen, fi_iret, fi_zret, fi_vret, fi_cut, fi_no, fi_s0, fi_s1, fi_s2, fi_s3, fi_s4, fi_v0, fi_v1, fi_v2, fi_v3, fi_v4, fi_v5, fi_n0, fi_n1, fi_n2, fi_mm, fi_stat, fi_alds, fi_tsw, List.getElem?_cons_zero, List.getElem?_cons_succ, List.set_cons_zero, List.set_cons_succ, List.length_cons, List.length_nil, Option.toList_some, Option.toList_none, List.cons_append, List.nil_append, Value.category, true_and, k_0, k_1, k_2, k_3, k_4, false_implies, true_implies, reduceCtorEq, fi_i2l, fi_last, fi_lconst, hO]
  exact ⟨i0, rfl, σ1, rfl, h1, s1⟩
theorem y_firstDay (hX : shX S) (hl : g.1.stackTraces = false) {x : Int32} (hb : x < 0 ∨ ¬ x < σ 2 4) : fh_Ct g m_L_firstDay hh_L_firstDay [.ref 0, .int x, .ref 69] ((S, fr), σ, τ) (hbQ S τ σ) := by
  intro d hd
  have hd' : 10 ≤ d := hd
  refine fh_enter (by decide) (by simp [fs_ok]) (Nat.le_of_ble_eq_true rfl) hd ?_
  refine fh_aload_n dL_firstDay_0 rfl rfl ?_
  refine fh_iconst (v := 0) dL_firstDay_1 rfl ?_
  refine fh_aload_n dL_firstDay_2 rfl rfl ?_
  refine fh_iload_n dL_firstDay_3 rfl rfl ?_
  exact fh_bad (μ' := fx_i 9 m_X8_firstDay) (d' := d - 1) (As := [.int x]) (rest := [.int 0, .ref 69]) (k := 0) mv_X8_firstDay q_1129 (by omega) rfl ⟨by decide, by decide⟩ dL_firstDay_4 hX.1 (x_firstDay hX hl hb (by omega)) (by decide) rfl (by decide) (by decide) qx_io rfl (Or.inl ⟨3, dL_firstDay_12, by decide, rfl⟩) dL_firstDay_13 dL_firstDay_14 ⟨rfl, rfl⟩
theorem h_lastDay (hX : shX S) (hO : S[69]? = some (.inl (.long, 1))) {x y : Int32} (ha : askC g S fr τ V nL nA nS kp nb m_X8_lastDay [.ref 0, .int x] y) (h : IC σ V nL nA nS kp nb) : fh_Ct g m_L_lastDay hh_L_lastDay [.ref 0, .int x, .ref 69] ((S, fr), σ, τ) (hgQ S fr τ σ V nL nA nS kp nb y) := by
  intro d hd
  have i0 : vp_in 0 1 := pk_in 0 1 (by decide) (by decide) (by decide)
  refine fh_enter (by decide) (by simp [fs_ok]) (Nat.le_of_ble_eq_true rfl) hd (fh_of (S_L_lastDay_0 ?_))
  show T_L_lastDay_0 g d _ [.ref 0, .int x, .ref 69, .null] [] _
  simp only [T_L_lastDay_0, fi_const, fi_iload, fi_aload, fi_istore, fi_astore, fi_iinc, fi_bin, fi_div, fi_un, fi_dup, fi_dup2, fi_pop, fi_if, fi_cmp, fi_getf, fi_putf, fi_putr, fi_ald, fi_ast, fi_alen, fi_iret, fi_zret, fi_vret, fi_cut, fi_no, fi_s0, fi_s1, fi_s2, fi_s3, fi_s4, fi_v0, fi_v1, fi_v2, fi_v3, fi_v4, fi_v5, fi_n0, fi_n1, fi_n2, fi_mm, fi_stat, fi_alds, fi_tsw, List.getElem?_cons_zero, List.getElem?_cons_succ, List.set_cons_zero, List.set_cons_succ, List.length_cons, List.length_nil, Option.toList_some, Option.toList_none, List.cons_append, List.nil_append, Value.category, true_and, k_0, k_1, k_2, k_3, k_4, false_implies, true_implies, reduceCtorEq, fi_i2l, fi_last, fi_lconst]
  refine ⟨by decide, ⟨_, hX.1⟩, (ha σ h).mono ?_⟩
  rintro r M' ⟨rfl, σ1, rfl, h1, s1⟩
  simp only [fi_const, fi_iload, fi_aload, fi_istore, fi_astore, fi_iinc, fi_bin, fi_div, fi_un, fi_dup, fi_dup2, fi_pop, fi_if, fi_cmp, fi_getf, fi_putf, fi_putr, fi_ald, fi_ast, fi_alen, fi_iret, fi_zret, fi_vret, fi_cut, fi_no, fi_s0, fi_s1, fi_s2, fi_s3, fi_s4, fi_v0, fi_v1, fi_v2, fi_v3, fi_v4, fi_v5, fi_n0, fi_n1, fi_n2, fi_mm, fi_stat, fi_alds, fi_tsw, List.getElem?_cons_zero, List.getElem?_cons_succ, List.set_cons_zero, List.set_cons_succ, List.length_cons, List.length_nil, Option.toList_some, Option.toList_none, List.cons_append, List.nil_append, Value.category, true_and, k_0, k_1, k_2, k_3, k_4, false_implies, true_implies, reduceCtorEq, fi_i2l, fi_last, fi_lconst, hO]
  exact ⟨i0, rfl, σ1, rfl, h1, s1⟩
theorem y_lastDay (hX : shX S) (hl : g.1.stackTraces = false) {x : Int32} (hb : x < 0 ∨ ¬ x < σ 2 4) : fh_Ct g m_L_lastDay hh_L_lastDay [.ref 0, .int x, .ref 69] ((S, fr), σ, τ) (hbQ S τ σ) := by
  intro d hd
  have hd' : 10 ≤ d := hd
  refine fh_enter (by decide) (by simp [fs_ok]) (Nat.le_of_ble_eq_true rfl) hd ?_
  refine fh_aload_n dL_lastDay_0 rfl rfl ?_
  refine fh_iconst (v := 0) dL_lastDay_1 rfl ?_
  refine fh_aload_n dL_lastDay_2 rfl rfl ?_
  refine fh_iload_n dL_lastDay_3 rfl rfl ?_
  exact fh_bad (μ' := fx_i 9 m_X8_lastDay) (d' := d - 1) (As := [.int x]) (rest := [.int 0, .ref 69]) (k := 0) mv_X8_lastDay q_1137 (by omega) rfl ⟨by decide, by decide⟩ dL_lastDay_4 hX.1 (x_lastDay hX hl hb (by omega)) (by decide) rfl (by decide) (by decide) qx_io rfl (Or.inl ⟨3, dL_lastDay_12, by decide, rfl⟩) dL_lastDay_13 dL_lastDay_14 ⟨rfl, rfl⟩
theorem h_daysWith (hX : shX S) (hO : S[69]? = some (.inl (.long, 1))) {x z y : Int32} (ha : askC g S fr τ V nL nA nS kp nb m_X8_daysWith [.ref 0, .int x, .int z] y) (h : IC σ V nL nA nS kp nb) : fh_Ct g m_L_daysWith hh_L_daysWith [.ref 0, .int x, .int z, .ref 69] ((S, fr), σ, τ) (hgQ S fr τ σ V nL nA nS kp nb y) := by
  intro d hd
  have i0 : vp_in 0 1 := pk_in 0 1 (by decide) (by decide) (by decide)
  refine fh_enter (by decide) (by simp [fs_ok]) (Nat.le_of_ble_eq_true rfl) hd (fh_of (S_L_daysWith_0 ?_))
  show T_L_daysWith_0 g d _ [.ref 0, .int x, .int z, .ref 69, .null] [] _
  simp only [T_L_daysWith_0, fi_const, fi_iload, fi_aload, fi_istore, fi_astore, fi_iinc, fi_bin, fi_div, fi_un, fi_dup, fi_dup2, fi_pop, fi_if, fi_cmp, fi_getf, fi_putf, fi_putr, fi_ald, fi_ast, fi_alen, fi_iret, fi_zret, fi_vret, fi_cut, fi_no, fi_s0, fi_s1, fi_s2, fi_s3, fi_s4, fi_v0, fi_v1, fi_v2, fi_v3, fi_v4, fi_v5, fi_n0, fi_n1, fi_n2, fi_mm, fi_stat, fi_alds, fi_tsw, List.getElem?_cons_zero, List.getElem?_cons_succ, List.set_cons_zero, List.set_cons_succ, List.length_cons, List.length_nil, Option.toList_some, Option.toList_none, List.cons_append, List.nil_append, Value.category, true_and, k_0, k_1, k_2, k_3, k_4, false_implies, true_implies, reduceCtorEq, fi_i2l, fi_last, fi_lconst]
  refine ⟨by decide, ⟨_, hX.1⟩, (ha σ h).mono ?_⟩
  rintro r M' ⟨rfl, σ1, rfl, h1, s1⟩
  simp only [fi_const, fi_iload, fi_aload, fi_istore, fi_astore, fi_iinc, fi_bin, fi_div, fi_un, fi_dup, fi_dup2, fi_pop, fi_if, fi_cmp, fi_getf, fi_putf, fi_putr, fi_ald, fi_ast, fi_alen, fi_iret, fi_zret, fi_vret, fi_cut, fi_no, fi_s0, fi_s1, fi_s2, fi_s3, fi_s4, fi_v0, fi_v1, fi_v2, fi_v3, fi_v4, fi_v5, fi_n0, fi_n1, fi_n2, fi_mm, fi_stat, fi_alds, fi_tsw, List.getElem?_cons_zero, List.getElem?_cons_succ, List.set_cons_zero, List.set_cons_succ, List.length_cons, List.length_nil, Option.toList_some, Option.toList_none, List.cons_append, List.nil_append, Value.category, true_and, k_0, k_1, k_2, k_3, k_4, false_implies, true_implies, reduceCtorEq, fi_i2l, fi_last, fi_lconst, hO]
  exact ⟨i0, rfl, σ1, rfl, h1, s1⟩
theorem y_daysWith (hX : shX S) (hl : g.1.stackTraces = false) {x z : Int32} (hb : x < 0 ∨ ¬ x < σ 2 4) : fh_Ct g m_L_daysWith hh_L_daysWith [.ref 0, .int x, .int z, .ref 69] ((S, fr), σ, τ) (hbQ S τ σ) := by
  intro d hd
  have hd' : 10 ≤ d := hd
  refine fh_enter (by decide) (by simp [fs_ok]) (Nat.le_of_ble_eq_true rfl) hd ?_
  refine fh_aload_n dL_daysWith_0 rfl rfl ?_
  refine fh_iconst (v := 0) dL_daysWith_1 rfl ?_
  refine fh_aload_n dL_daysWith_2 rfl rfl ?_
  refine fh_iload_n dL_daysWith_3 rfl rfl ?_
  refine fh_iload_n dL_daysWith_4 rfl rfl ?_
  exact fh_bad (μ' := fx_i 9 m_X8_daysWith) (d' := d - 1) (As := [.int x, .int z]) (rest := [.int 0, .ref 69]) (k := 0) mv_X8_daysWith q_1147 (by omega) rfl ⟨by decide, by decide⟩ dL_daysWith_5 hX.1 (x_daysWith hX hl z hb (by omega)) (by decide) rfl (by decide) (by decide) qx_io rfl (Or.inr ⟨4, dL_daysWith_13, by decide, rfl⟩) dL_daysWith_15 dL_daysWith_16 ⟨rfl, rfl⟩
theorem h_actorCost (hX : shX S) (hO : S[69]? = some (.inl (.long, 1))) {x y : Int32} (ha : askC g S fr τ V nL nA nS kp nb m_X8_actorCost [.ref 0, .int x] y) (h : IC σ V nL nA nS kp nb) : fh_Ct g m_L_actorCost hh_L_actorCost [.ref 0, .int x, .ref 69] ((S, fr), σ, τ) (hgQ S fr τ σ V nL nA nS kp nb y) := by
  intro d hd
  have i0 : vp_in 0 1 := pk_in 0 1 (by decide) (by decide) (by decide)
  refine fh_enter (by decide) (by simp [fs_ok]) (Nat.le_of_ble_eq_true rfl) hd (fh_of (S_L_actorCost_0 ?_))
  show T_L_actorCost_0 g d _ [.ref 0, .int x, .ref 69, .null] [] _
  simp only [T_L_actorCost_0, fi_const, fi_iload, fi_aload, fi_istore, fi_astore, fi_iinc, fi_bin, fi_div, fi_un, fi_dup, fi_dup2, fi_pop, fi_if, fi_cmp, fi_getf, fi_putf, fi_putr, fi_ald, fi_ast, fi_alen, fi_iret, fi_zret, fi_vret, fi_cut, fi_no, fi_s0, fi_s1, fi_s2, fi_s3, fi_s4, fi_v0, fi_v1, fi_v2, fi_v3, fi_v4, fi_v5, fi_n0, fi_n1, fi_n2, fi_mm, fi_stat, fi_alds, fi_tsw, List.getElem?_cons_zero, List.getElem?_cons_succ, List.set_cons_zero, List.set_cons_succ, List.length_cons, List.length_nil, Option.toList_some, Option.toList_none, List.cons_append, List.nil_append, Value.category, true_and, k_0, k_1, k_2, k_3, k_4, false_implies, true_implies, reduceCtorEq, fi_i2l, fi_last, fi_lconst]
  refine ⟨by decide, ⟨_, hX.1⟩, (ha σ h).mono ?_⟩
  rintro r M' ⟨rfl, σ1, rfl, h1, s1⟩
  simp only [fi_const, fi_iload, fi_aload, fi_istore, fi_astore, fi_iinc, fi_bin, fi_div, fi_un, fi_dup, fi_dup2, fi_pop, fi_if, fi_cmp, fi_getf, fi_putf, fi_putr, fi_ald, fi_ast, fi_alen, fi_iret, fi_zret, fi_vret, fi_cut, fi_no, fi_s0, fi_s1, fi_s2, fi_s3, fi_s4, fi_v0, fi_v1, fi_v2, fi_v3, fi_v4, fi_v5, fi_n0, fi_n1, fi_n2, fi_mm, fi_stat, fi_alds, fi_tsw, List.getElem?_cons_zero, List.getElem?_cons_succ, List.set_cons_zero, List.set_cons_succ, List.length_cons, List.length_nil, Option.toList_some, Option.toList_none, List.cons_append, List.nil_append, Value.category, true_and, k_0, k_1, k_2, k_3, k_4, false_implies, true_implies, reduceCtorEq, fi_i2l, fi_last, fi_lconst, hO]
  exact ⟨i0, rfl, σ1, rfl, h1, s1⟩
theorem y_actorCost (hX : shX S) (hl : g.1.stackTraces = false) {x : Int32} (hb : x < 0 ∨ ¬ x < σ 2 4) : fh_Ct g m_L_actorCost hh_L_actorCost [.ref 0, .int x, .ref 69] ((S, fr), σ, τ) (hbQ S τ σ) := by
  intro d hd
  have hd' : 10 ≤ d := hd
  refine fh_enter (by decide) (by simp [fs_ok]) (Nat.le_of_ble_eq_true rfl) hd ?_
  refine fh_aload_n dL_actorCost_0 rfl rfl ?_
  refine fh_iconst (v := 0) dL_actorCost_1 rfl ?_
  refine fh_aload_n dL_actorCost_2 rfl rfl ?_
  refine fh_iload_n dL_actorCost_3 rfl rfl ?_
  exact fh_bad (μ' := fx_i 9 m_X8_actorCost) (d' := d - 1) (As := [.int x]) (rest := [.int 0, .ref 69]) (k := 0) mv_X8_actorCost q_1156 (by omega) rfl ⟨by decide, by decide⟩ dL_actorCost_4 hX.1 (x_actorCost hX hl hb (by omega)) (by decide) rfl (by decide) (by decide) qx_io rfl (Or.inl ⟨3, dL_actorCost_12, by decide, rfl⟩) dL_actorCost_13 dL_actorCost_14 ⟨rfl, rfl⟩
theorem h_reasonFor (hX : shX S) (hO : S[69]? = some (.inl (.long, 1))) {x z y : Int32} (ha : askC g S fr τ V nL nA nS kp nb m_X8_reasonFor [.ref 0, .int x, .int z] y) (h : IC σ V nL nA nS kp nb) : fh_Ct g m_L_reasonFor hh_L_reasonFor [.ref 0, .int x, .int z, .ref 69] ((S, fr), σ, τ) (hgQ S fr τ σ V nL nA nS kp nb y) := by
  intro d hd
  have i0 : vp_in 0 1 := pk_in 0 1 (by decide) (by decide) (by decide)
  refine fh_enter (by decide) (by simp [fs_ok]) (Nat.le_of_ble_eq_true rfl) hd (fh_of (S_L_reasonFor_0 ?_))
  show T_L_reasonFor_0 g d _ [.ref 0, .int x, .int z, .ref 69, .null] [] _
  simp only [T_L_reasonFor_0, fi_const, fi_iload, fi_aload, fi_istore, fi_astore, fi_iinc, fi_bin, fi_div, fi_un, fi_dup, fi_dup2, fi_pop, fi_if, fi_cmp, fi_getf, fi_putf, fi_putr, fi_ald, fi_ast, fi_alen, fi_iret, fi_zret, fi_vret, fi_cut, fi_no, fi_s0, fi_s1, fi_s2, fi_s3, fi_s4, fi_v0, fi_v1, fi_v2, fi_v3, fi_v4, fi_v5, fi_n0, fi_n1, fi_n2, fi_mm, fi_stat, fi_alds, fi_tsw, List.getElem?_cons_zero, List.getElem?_cons_succ, List.set_cons_zero, List.set_cons_succ, List.length_cons, List.length_nil, Option.toList_some, Option.toList_none, List.cons_append, List.nil_append, Value.category, true_and, k_0, k_1, k_2, k_3, k_4, false_implies, true_implies, reduceCtorEq, fi_i2l, fi_last, fi_lconst]
  refine ⟨by decide, ⟨_, hX.1⟩, (ha σ h).mono ?_⟩
  rintro r M' ⟨rfl, σ1, rfl, h1, s1⟩
  simp only [fi_const, fi_iload, fi_aload, fi_istore, fi_astore, fi_iinc, fi_bin, fi_div, fi_un, fi_dup, fi_dup2, fi_pop, fi_if, fi_cmp, fi_getf, fi_putf, fi_putr, fi_ald, fi_ast, fi_alen, fi_iret, fi_zret, fi_vret, fi_cut, fi_no, fi_s0, fi_s1, fi_s2, fi_s3, fi_s4, fi_v0, fi_v1, fi_v2, fi_v3, fi_v4, fi_v5, fi_n0, fi_n1, fi_n2, fi_mm, fi_stat, fi_alds, fi_tsw, List.getElem?_cons_zero, List.getElem?_cons_succ, List.set_cons_zero, List.set_cons_succ, List.length_cons, List.length_nil, Option.toList_some, Option.toList_none, List.cons_append, List.nil_append, Value.category, true_and, k_0, k_1, k_2, k_3, k_4, false_implies, true_implies, reduceCtorEq, fi_i2l, fi_last, fi_lconst, hO]
  exact ⟨i0, rfl, σ1, rfl, h1, s1⟩
theorem y_reasonFor (hX : shX S) (hl : g.1.stackTraces = false) {x z : Int32} (hb : x < 0 ∨ ¬ x < σ 2 7) : fh_Ct g m_L_reasonFor hh_L_reasonFor [.ref 0, .int x, .int z, .ref 69] ((S, fr), σ, τ) (hbQ S τ σ) := by
  intro d hd
  have hd' : 10 ≤ d := hd
  refine fh_enter (by decide) (by simp [fs_ok]) (Nat.le_of_ble_eq_true rfl) hd ?_
  refine fh_aload_n dL_reasonFor_0 rfl rfl ?_
  refine fh_iconst (v := 0) dL_reasonFor_1 rfl ?_
  refine fh_aload_n dL_reasonFor_2 rfl rfl ?_
  refine fh_iload_n dL_reasonFor_3 rfl rfl ?_
  refine fh_iload_n dL_reasonFor_4 rfl rfl ?_
  exact fh_bad (μ' := fx_i 9 m_X8_reasonFor) (d' := d - 1) (As := [.int x, .int z]) (rest := [.int 0, .ref 69]) (k := 0) mv_X8_reasonFor q_1164 (by omega) rfl ⟨by decide, by decide⟩ dL_reasonFor_5 hX.1 (x_reasonFor hX hl z hb (by omega)) (by decide) rfl (by decide) (by decide) qx_io rfl (Or.inr ⟨4, dL_reasonFor_13, by decide, rfl⟩) dL_reasonFor_15 dL_reasonFor_16 ⟨rfl, rfl⟩
theorem y_reasonFor2 (hX : shX S) (hl : g.1.stackTraces = false) {x z : Int32} (hb : ¬ x < 0 ∧ x < σ 2 7) (hz : z < 0 ∨ ¬ z < 12) : fh_Ct g m_L_reasonFor hh_L_reasonFor [.ref 0, .int x, .int z, .ref 69] ((S, fr), σ, τ) (hbQ S τ σ) := by
  intro d hd
  have hd' : 10 ≤ d := hd
  refine fh_enter (by decide) (by simp [fs_ok]) (Nat.le_of_ble_eq_true rfl) hd ?_
  refine fh_aload_n dL_reasonFor_0 rfl rfl ?_
  refine fh_iconst (v := 0) dL_reasonFor_1 rfl ?_
  refine fh_aload_n dL_reasonFor_2 rfl rfl ?_
  refine fh_iload_n dL_reasonFor_3 rfl rfl ?_
  refine fh_iload_n dL_reasonFor_4 rfl rfl ?_
  exact fh_bad (μ' := fx_i 9 m_X8_reasonFor) (d' := d - 1) (As := [.int x, .int z]) (rest := [.int 0, .ref 69]) (k := 0) mv_X8_reasonFor q_1164 (by omega) rfl ⟨by decide, by decide⟩ dL_reasonFor_5 hX.1 (x_reasonFor2 hX hl hb hz (by omega)) (by decide) rfl (by decide) (by decide) qx_io rfl (Or.inr ⟨4, dL_reasonFor_13, by decide, rfl⟩) dL_reasonFor_15 dL_reasonFor_16 ⟨rfl, rfl⟩
theorem h_daysFor (hX : shX S) (hO : S[69]? = some (.inl (.long, 1))) {x y : Int32} (ha : askC g S fr τ V nL nA nS kp nb m_X8_daysFor [.ref 0, .int x] y) (h : IC σ V nL nA nS kp nb) : fh_Ct g m_L_daysFor hh_L_daysFor [.ref 0, .int x, .ref 69] ((S, fr), σ, τ) (hgQ S fr τ σ V nL nA nS kp nb y) := by
  intro d hd
  have i0 : vp_in 0 1 := pk_in 0 1 (by decide) (by decide) (by decide)
  refine fh_enter (by decide) (by simp [fs_ok]) (Nat.le_of_ble_eq_true rfl) hd (fh_of (S_L_daysFor_0 ?_))
  show T_L_daysFor_0 g d _ [.ref 0, .int x, .ref 69, .null] [] _
  simp only [T_L_daysFor_0, fi_const, fi_iload, fi_aload, fi_istore, fi_astore, fi_iinc, fi_bin, fi_div, fi_un, fi_dup, fi_dup2, fi_pop, fi_if, fi_cmp, fi_getf, fi_putf, fi_putr, fi_ald, fi_ast, fi_alen, fi_iret, fi_zret, fi_vret, fi_cut, fi_no, fi_s0, fi_s1, fi_s2, fi_s3, fi_s4, fi_v0, fi_v1, fi_v2, fi_v3, fi_v4, fi_v5, fi_n0, fi_n1, fi_n2, fi_mm, fi_stat, fi_alds, fi_tsw, List.getElem?_cons_zero, List.getElem?_cons_succ, List.set_cons_zero, List.set_cons_succ, List.length_cons, List.length_nil, Option.toList_some, Option.toList_none, List.cons_append, List.nil_append, Value.category, true_and, k_0, k_1, k_2, k_3, k_4, false_implies, true_implies, reduceCtorEq, fi_i2l, fi_last, fi_lconst]
  refine ⟨by decide, ⟨_, hX.1⟩, (ha σ h).mono ?_⟩
  rintro r M' ⟨rfl, σ1, rfl, h1, s1⟩
  simp only [fi_const, fi_iload, fi_aload, fi_istore, fi_astore, fi_iinc, fi_bin, fi_div, fi_un, fi_dup, fi_dup2, fi_pop, fi_if, fi_cmp, fi_getf, fi_putf, fi_putr, fi_ald, fi_ast, fi_alen, fi_iret, fi_zret, fi_vret, fi_cut, fi_no, fi_s0, fi_s1, fi_s2, fi_s3, fi_s4, fi_v0, fi_v1, fi_v2, fi_v3, fi_v4, fi_v5, fi_n0, fi_n1, fi_n2, fi_mm, fi_stat, fi_alds, fi_tsw, List.getElem?_cons_zero, List.getElem?_cons_succ, List.set_cons_zero, List.set_cons_succ, List.length_cons, List.length_nil, Option.toList_some, Option.toList_none, List.cons_append, List.nil_append, Value.category, true_and, k_0, k_1, k_2, k_3, k_4, false_implies, true_implies, reduceCtorEq, fi_i2l, fi_last, fi_lconst, hO]
  exact ⟨i0, rfl, σ1, rfl, h1, s1⟩
theorem y_daysFor (hX : shX S) (hl : g.1.stackTraces = false) {x : Int32} (hb : x < 0 ∨ ¬ x < σ 2 7) : fh_Ct g m_L_daysFor hh_L_daysFor [.ref 0, .int x, .ref 69] ((S, fr), σ, τ) (hbQ S τ σ) := by
  intro d hd
  have hd' : 10 ≤ d := hd
  refine fh_enter (by decide) (by simp [fs_ok]) (Nat.le_of_ble_eq_true rfl) hd ?_
  refine fh_aload_n dL_daysFor_0 rfl rfl ?_
  refine fh_iconst (v := 0) dL_daysFor_1 rfl ?_
  refine fh_aload_n dL_daysFor_2 rfl rfl ?_
  refine fh_iload_n dL_daysFor_3 rfl rfl ?_
  exact fh_bad (μ' := fx_i 9 m_X8_daysFor) (d' := d - 1) (As := [.int x]) (rest := [.int 0, .ref 69]) (k := 0) mv_X8_daysFor q_1171 (by omega) rfl ⟨by decide, by decide⟩ dL_daysFor_4 hX.1 (x_daysFor hX hl hb (by omega)) (by decide) rfl (by decide) (by decide) qx_io rfl (Or.inl ⟨3, dL_daysFor_12, by decide, rfl⟩) dL_daysFor_13 dL_daysFor_14 ⟨rfl, rfl⟩
theorem h_costWith (hX : shX S) (hO : S[69]? = some (.inl (.long, 1))) {x z y : Int32} (ha : askC g S fr τ V nL nA nS kp nb m_X8_costWith [.ref 0, .int x, .int z] y) (h : IC σ V nL nA nS kp nb) : fh_Ct g m_L_costWith hh_L_costWith [.ref 0, .int x, .int z, .ref 69] ((S, fr), σ, τ) (hgQ S fr τ σ V nL nA nS kp nb y) := by
  intro d hd
  have i0 : vp_in 0 1 := pk_in 0 1 (by decide) (by decide) (by decide)
  refine fh_enter (by decide) (by simp [fs_ok]) (Nat.le_of_ble_eq_true rfl) hd (fh_of (S_L_costWith_0 ?_))
  show T_L_costWith_0 g d _ [.ref 0, .int x, .int z, .ref 69, .null] [] _
  simp only [T_L_costWith_0, fi_const, fi_iload, fi_aload, fi_istore, fi_astore, fi_iinc, fi_bin, fi_div, fi_un, fi_dup, fi_dup2, fi_pop, fi_if, fi_cmp, fi_getf, fi_putf, fi_putr, fi_ald, fi_ast, fi_alen, fi_iret, fi_zret, fi_vret, fi_cut, fi_no, fi_s0, fi_s1, fi_s2, fi_s3, fi_s4, fi_v0, fi_v1, fi_v2, fi_v3, fi_v4, fi_v5, fi_n0, fi_n1, fi_n2, fi_mm, fi_stat, fi_alds, fi_tsw, List.getElem?_cons_zero, List.getElem?_cons_succ, List.set_cons_zero, List.set_cons_succ, List.length_cons, List.length_nil, Option.toList_some, Option.toList_none, List.cons_append, List.nil_append, Value.category, true_and, k_0, k_1, k_2, k_3, k_4, false_implies, true_implies, reduceCtorEq, fi_i2l, fi_last, fi_lconst]
  refine ⟨by decide, ⟨_, hX.1⟩, (ha σ h).mono ?_⟩
  rintro r M' ⟨rfl, σ1, rfl, h1, s1⟩
  simp only [fi_const, fi_iload, fi_aload, fi_istore, fi_astore, fi_iinc, fi_bin, fi_div, fi_un, fi_dup, fi_dup2, fi_pop, fi_if, fi_cmp, fi_getf, fi_putf, fi_putr, fi_ald, fi_ast, fi_alen, fi_iret, fi_zret, fi_vret, fi_cut, fi_no, fi_s0, fi_s1, fi_s2, fi_s3, fi_s4, fi_v0, fi_v1, fi_v2, fi_v3, fi_v4, fi_v5, fi_n0, fi_n1, fi_n2, fi_mm, fi_stat, fi_alds, fi_tsw, List.getElem?_cons_zero, List.getElem?_cons_succ, List.set_cons_zero, List.set_cons_succ, List.length_cons, List.length_nil, Option.toList_some, Option.toList_none, List.cons_append, List.nil_append, Value.category, true_and, k_0, k_1, k_2, k_3, k_4, false_implies, true_implies, reduceCtorEq, fi_i2l, fi_last, fi_lconst, hO]
  exact ⟨i0, rfl, σ1, rfl, h1, s1⟩
theorem y_costWith (hX : shX S) (hl : g.1.stackTraces = false) {x z : Int32} (hb : x < 0 ∨ ¬ x < σ 2 7) : fh_Ct g m_L_costWith hh_L_costWith [.ref 0, .int x, .int z, .ref 69] ((S, fr), σ, τ) (hbQ S τ σ) := by
  intro d hd
  have hd' : 10 ≤ d := hd
  refine fh_enter (by decide) (by simp [fs_ok]) (Nat.le_of_ble_eq_true rfl) hd ?_
  refine fh_aload_n dL_costWith_0 rfl rfl ?_
  refine fh_iconst (v := 0) dL_costWith_1 rfl ?_
  refine fh_aload_n dL_costWith_2 rfl rfl ?_
  refine fh_iload_n dL_costWith_3 rfl rfl ?_
  refine fh_iload_n dL_costWith_4 rfl rfl ?_
  exact fh_bad (μ' := fx_i 9 m_X8_costWith) (d' := d - 1) (As := [.int x, .int z]) (rest := [.int 0, .ref 69]) (k := 0) mv_X8_costWith q_1178 (by omega) rfl ⟨by decide, by decide⟩ dL_costWith_5 hX.1 (x_costWith hX hl z hb (by omega)) (by decide) rfl (by decide) (by decide) qx_io rfl (Or.inr ⟨4, dL_costWith_13, by decide, rfl⟩) dL_costWith_15 dL_costWith_16 ⟨rfl, rfl⟩
theorem y_costWith2 (hX : shX S) (hl : g.1.stackTraces = false) {x z : Int32} (hb : ¬ x < 0 ∧ x < σ 2 7) (hz : z < 0 ∨ ¬ z < 12) : fh_Ct g m_L_costWith hh_L_costWith [.ref 0, .int x, .int z, .ref 69] ((S, fr), σ, τ) (hbQ S τ σ) := by
  intro d hd
  have hd' : 10 ≤ d := hd
  refine fh_enter (by decide) (by simp [fs_ok]) (Nat.le_of_ble_eq_true rfl) hd ?_
  refine fh_aload_n dL_costWith_0 rfl rfl ?_
  refine fh_iconst (v := 0) dL_costWith_1 rfl ?_
  refine fh_aload_n dL_costWith_2 rfl rfl ?_
  refine fh_iload_n dL_costWith_3 rfl rfl ?_
  refine fh_iload_n dL_costWith_4 rfl rfl ?_
  exact fh_bad (μ' := fx_i 9 m_X8_costWith) (d' := d - 1) (As := [.int x, .int z]) (rest := [.int 0, .ref 69]) (k := 0) mv_X8_costWith q_1178 (by omega) rfl ⟨by decide, by decide⟩ dL_costWith_5 hX.1 (x_costWith2 hX hl hb hz (by omega)) (by decide) rfl (by decide) (by decide) qx_io rfl (Or.inr ⟨4, dL_costWith_13, by decide, rfl⟩) dL_costWith_15 dL_costWith_16 ⟨rfl, rfl⟩
theorem h_bestDay (hX : shX S) (hO : S[69]? = some (.inl (.long, 1))) {x y : Int32} (ha : askC g S fr τ V nL nA nS kp nb m_X8_bestDay [.ref 0, .int x] y) (h : IC σ V nL nA nS kp nb) : fh_Ct g m_L_bestDay hh_L_bestDay [.ref 0, .int x, .ref 69] ((S, fr), σ, τ) (hgQ S fr τ σ V nL nA nS kp nb y) := by
  intro d hd
  have i0 : vp_in 0 1 := pk_in 0 1 (by decide) (by decide) (by decide)
  refine fh_enter (by decide) (by simp [fs_ok]) (Nat.le_of_ble_eq_true rfl) hd (fh_of (S_L_bestDay_0 ?_))
  show T_L_bestDay_0 g d _ [.ref 0, .int x, .ref 69, .null] [] _
  simp only [T_L_bestDay_0, fi_const, fi_iload, fi_aload, fi_istore, fi_astore, fi_iinc, fi_bin, fi_div, fi_un, fi_dup, fi_dup2, fi_pop, fi_if, fi_cmp, fi_getf, fi_putf, fi_putr, fi_ald, fi_ast, fi_alen, fi_iret, fi_zret, fi_vret, fi_cut, fi_no, fi_s0, fi_s1, fi_s2, fi_s3, fi_s4, fi_v0, fi_v1, fi_v2, fi_v3, fi_v4, fi_v5, fi_n0, fi_n1, fi_n2, fi_mm, fi_stat, fi_alds, fi_tsw, List.getElem?_cons_zero, List.getElem?_cons_succ, List.set_cons_zero, List.set_cons_succ, List.length_cons, List.length_nil, Option.toList_some, Option.toList_none, List.cons_append, List.nil_append, Value.category, true_and, k_0, k_1, k_2, k_3, k_4, false_implies, true_implies, reduceCtorEq, fi_i2l, fi_last, fi_lconst]
  refine ⟨by decide, ⟨_, hX.1⟩, (ha σ h).mono ?_⟩
  rintro r M' ⟨rfl, σ1, rfl, h1, s1⟩
  simp only [fi_const, fi_iload, fi_aload, fi_istore, fi_astore, fi_iinc, fi_bin, fi_div, fi_un, fi_dup, fi_dup2, fi_pop, fi_if, fi_cmp, fi_getf, fi_putf, fi_putr, fi_ald, fi_ast, fi_alen, fi_iret, fi_zret, fi_vret, fi_cut, fi_no, fi_s0, fi_s1, fi_s2, fi_s3, fi_s4, fi_v0, fi_v1, fi_v2, fi_v3, fi_v4, fi_v5, fi_n0, fi_n1, fi_n2, fi_mm, fi_stat, fi_alds, fi_tsw, List.getElem?_cons_zero, List.getElem?_cons_succ, List.set_cons_zero, List.set_cons_succ, List.length_cons, List.length_nil, Option.toList_some, Option.toList_none, List.cons_append, List.nil_append, Value.category, true_and, k_0, k_1, k_2, k_3, k_4, false_implies, true_implies, reduceCtorEq, fi_i2l, fi_last, fi_lconst, hO]
  exact ⟨i0, rfl, σ1, rfl, h1, s1⟩
theorem y_bestDay (hX : shX S) (hl : g.1.stackTraces = false) {x : Int32} (hb : x < 0 ∨ ¬ x < σ 2 7) : fh_Ct g m_L_bestDay hh_L_bestDay [.ref 0, .int x, .ref 69] ((S, fr), σ, τ) (hbQ S τ σ) := by
  intro d hd
  have hd' : 10 ≤ d := hd
  refine fh_enter (by decide) (by simp [fs_ok]) (Nat.le_of_ble_eq_true rfl) hd ?_
  refine fh_aload_n dL_bestDay_0 rfl rfl ?_
  refine fh_iconst (v := 0) dL_bestDay_1 rfl ?_
  refine fh_aload_n dL_bestDay_2 rfl rfl ?_
  refine fh_iload_n dL_bestDay_3 rfl rfl ?_
  exact fh_bad (μ' := fx_i 9 m_X8_bestDay) (d' := d - 1) (As := [.int x]) (rest := [.int 0, .ref 69]) (k := 0) mv_X8_bestDay q_1185 (by omega) rfl ⟨by decide, by decide⟩ dL_bestDay_4 hX.1 (x_bestDay hX hl hb (by omega)) (by decide) rfl (by decide) (by decide) qx_io rfl (Or.inl ⟨3, dL_bestDay_12, by decide, rfl⟩) dL_bestDay_13 dL_bestDay_14 ⟨rfl, rfl⟩
theorem h_waitingFor (hX : shX S) (hO : S[69]? = some (.inl (.long, 1))) {x z y : Int32} (ha : askC g S fr τ V nL nA nS kp nb m_X8_waitingFor [.ref 0, .int x, .int z] y) (h : IC σ V nL nA nS kp nb) : fh_Ct g m_L_waitingFor hh_L_waitingFor [.ref 0, .int x, .int z, .ref 69] ((S, fr), σ, τ) (hgQ S fr τ σ V nL nA nS kp nb y) := by
  intro d hd
  have i0 : vp_in 0 1 := pk_in 0 1 (by decide) (by decide) (by decide)
  refine fh_enter (by decide) (by simp [fs_ok]) (Nat.le_of_ble_eq_true rfl) hd (fh_of (S_L_waitingFor_0 ?_))
  show T_L_waitingFor_0 g d _ [.ref 0, .int x, .int z, .ref 69, .null] [] _
  simp only [T_L_waitingFor_0, fi_const, fi_iload, fi_aload, fi_istore, fi_astore, fi_iinc, fi_bin, fi_div, fi_un, fi_dup, fi_dup2, fi_pop, fi_if, fi_cmp, fi_getf, fi_putf, fi_putr, fi_ald, fi_ast, fi_alen, fi_iret, fi_zret, fi_vret, fi_cut, fi_no, fi_s0, fi_s1, fi_s2, fi_s3, fi_s4, fi_v0, fi_v1, fi_v2, fi_v3, fi_v4, fi_v5, fi_n0, fi_n1, fi_n2, fi_mm, fi_stat, fi_alds, fi_tsw, List.getElem?_cons_zero, List.getElem?_cons_succ, List.set_cons_zero, List.set_cons_succ, List.length_cons, List.length_nil, Option.toList_some, Option.toList_none, List.cons_append, List.nil_append, Value.category, true_and, k_0, k_1, k_2, k_3, k_4, false_implies, true_implies, reduceCtorEq, fi_i2l, fi_last, fi_lconst]
  refine ⟨by decide, ⟨_, hX.1⟩, (ha σ h).mono ?_⟩
  rintro r M' ⟨rfl, σ1, rfl, h1, s1⟩
  simp only [fi_const, fi_iload, fi_aload, fi_istore, fi_astore, fi_iinc, fi_bin, fi_div, fi_un, fi_dup, fi_dup2, fi_pop, fi_if, fi_cmp, fi_getf, fi_putf, fi_putr, fi_ald, fi_ast, fi_alen, fi_iret, fi_zret, fi_vret, fi_cut, fi_no, fi_s0, fi_s1, fi_s2, fi_s3, fi_s4, fi_v0, fi_v1, fi_v2, fi_v3, fi_v4, fi_v5, fi_n0, fi_n1, fi_n2, fi_mm, fi_stat, fi_alds, fi_tsw, List.getElem?_cons_zero, List.getElem?_cons_succ, List.set_cons_zero, List.set_cons_succ, List.length_cons, List.length_nil, Option.toList_some, Option.toList_none, List.cons_append, List.nil_append, Value.category, true_and, k_0, k_1, k_2, k_3, k_4, false_implies, true_implies, reduceCtorEq, fi_i2l, fi_last, fi_lconst, hO]
  exact ⟨i0, rfl, σ1, rfl, h1, s1⟩
theorem y_waitingFor (hX : shX S) (hl : g.1.stackTraces = false) {x z : Int32} (hb : x < 0 ∨ ¬ x < σ 2 0) : fh_Ct g m_L_waitingFor hh_L_waitingFor [.ref 0, .int x, .int z, .ref 69] ((S, fr), σ, τ) (hbQ S τ σ) := by
  intro d hd
  have hd' : 10 ≤ d := hd
  refine fh_enter (by decide) (by simp [fs_ok]) (Nat.le_of_ble_eq_true rfl) hd ?_
  refine fh_aload_n dL_waitingFor_0 rfl rfl ?_
  refine fh_iconst (v := 0) dL_waitingFor_1 rfl ?_
  refine fh_aload_n dL_waitingFor_2 rfl rfl ?_
  refine fh_iload_n dL_waitingFor_3 rfl rfl ?_
  refine fh_iload_n dL_waitingFor_4 rfl rfl ?_
  exact fh_bad (μ' := fx_i 9 m_X8_waitingFor) (d' := d - 1) (As := [.int x, .int z]) (rest := [.int 0, .ref 69]) (k := 0) mv_X8_waitingFor q_1192 (by omega) rfl ⟨by decide, by decide⟩ dL_waitingFor_5 hX.1 (x_waitingFor hX hl z hb (by omega)) (by decide) rfl (by decide) (by decide) qx_io rfl (Or.inr ⟨4, dL_waitingFor_13, by decide, rfl⟩) dL_waitingFor_15 dL_waitingFor_16 ⟨rfl, rfl⟩
end FH2
