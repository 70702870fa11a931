/-! ===== the constructors of the class and of the reference ===== -/
section CT2
variable {g : fs_G} {d : Nat} {S : List fs_Sh} {fr : Bool} {σ : Nat → Nat → Int32} {τ : Nat → Nat → Int64} {V : Vt} {nL nA nS kp nb p : Nat} {P : List fs_Sh}
theorem c_X2_init' {S : List fs_Sh} (hS : S = P ++ [.inr (2, rs_X2)]) (h : P.length = p) (hp : p < 8000) {q : Nat} : fs_Ct g m_X2_init [.ref p, .ref q] ((S, true), σ, τ) (fun r M' => r = none ∧ ∃ σ' τ', M' = ((P ++ shX2 p q, true), σ', τ') ∧ ctK p σ σ') := by subst hS; exact c_X2_init h hp
/-- refresh, where only the class is made -/
theorem c_refresh0 (h0 : S[0]? = some (.inr (7, [some (some 1), none, none, some (some 2), some (some 14), some (some 20), some (some 26), some (some 46), some (some 48), some (some 50)]))) (hP : shP S 2) (hD : shD S 14 2) (hS : shS S) (hT : okT V nL nA nS) (hN : okN V nS (V 4)) (h : IC0 σ V nL nA nS kp nb) : fs_Ct g m_X8_refresh [.ref 0] ((S, fr), σ, τ) (fun r M' => r = none ∧ ∃ σ', M' = ((S, fr), σ', τ) ∧ IC σ' V nL nA nS kp nb ∧ ∀ a, 56 ≤ a → σ' a = σ a) := by
  have hn := hT.2.2.2.2.2.1
  have h4 := h.2.2.2.1
  have h5 := h.2.2.2.2.1
  have h01 : b01 (v_ni V) nS := hT.2.2.2.2.2.2.2.1
  refine fs_enterC (by decide) (by simp [fs_ok]) (Nat.le_of_ble_eq_true rfl) (fun d => S_X8_refresh_0 ?_)
  show T_X8_refresh_0 g d _ [.ref 0] [] _
  simp only [T_X8_refresh_0, fi_const, fi_iload, fi_aload, fi_istore, fi_astore, fi_iinc, fi_bin, fi_div, fi_un, fi_dup, fi_dup2, fi_pop, fi_if, fi_cmp, fi_getf, fi_putf, fi_putr, fi_ald, fi_ast, fi_alen, fi_iret, fi_zret, fi_vret, fi_cut, fi_no, fi_s0, fi_s1, fi_s2, fi_s3, fi_s4, fi_v0, fi_v1, fi_v2, fi_v3, fi_v4, fi_v5, fi_n0, fi_n1, fi_n2, fi_mm, fi_stat, fi_alds, fi_tsw, List.getElem?_cons_zero, List.getElem?_cons_succ, List.set_cons_zero, List.set_cons_succ, List.length_cons, List.length_nil, Option.toList_some, Option.toList_none, List.cons_append, List.nil_append, Value.category, true_and, k_0, k_1, k_2, k_3, k_4, false_implies, true_implies, reduceCtorEq]
  simp only [fi_const, fi_iload, fi_aload, fi_istore, fi_astore, fi_iinc, fi_bin, fi_div, fi_un, fi_dup, fi_dup2, fi_pop, fi_if, fi_cmp, fi_getf, fi_putf, fi_putr, fi_ald, fi_ast, fi_alen, fi_iret, fi_zret, fi_vret, fi_cut, fi_no, fi_s0, fi_s1, fi_s2, fi_s3, fi_s4, fi_v0, fi_v1, fi_v2, fi_v3, fi_v4, fi_v5, fi_n0, fi_n1, fi_n2, fi_mm, fi_stat, fi_alds, fi_tsw, List.getElem?_cons_zero, List.getElem?_cons_succ, List.set_cons_zero, List.set_cons_succ, List.length_cons, List.length_nil, Option.toList_some, Option.toList_none, List.cons_append, List.nil_append, Value.category, true_and, k_0, k_1, k_2, k_3, k_4, false_implies, true_implies, reduceCtorEq, h0]
  refine ⟨by decide, ⟨_, hD.1⟩, (c_build hD hP (by decide) hn h.1.2.2 (fun j hj => by rw [show 2 + 8 = 10 from rfl, (h4 j hj).2.2.1]; exact h01 j hj)).mono ?_⟩
  rintro r M' ⟨rfl, σ1, rfl, hs1, hsh⟩
  have c : ∀ a, ¬ (14 < a ∧ a < 20) → σ1 a = σ a := fun a ha => hs1 a ha
  simp only [fi_const, fi_iload, fi_aload, fi_istore, fi_astore, fi_iinc, fi_bin, fi_div, fi_un, fi_dup, fi_dup2, fi_pop, fi_if, fi_cmp, fi_getf, fi_putf, fi_putr, fi_ald, fi_ast, fi_alen, fi_iret, fi_zret, fi_vret, fi_cut, fi_no, fi_s0, fi_s1, fi_s2, fi_s3, fi_s4, fi_v0, fi_v1, fi_v2, fi_v3, fi_v4, fi_v5, fi_n0, fi_n1, fi_n2, fi_mm, fi_stat, fi_alds, fi_tsw, List.getElem?_cons_zero, List.getElem?_cons_succ, List.set_cons_zero, List.set_cons_succ, List.length_cons, List.length_nil, Option.toList_some, Option.toList_none, List.cons_append, List.nil_append, Value.category, true_and, k_0, k_1, k_2, k_3, k_4, false_implies, true_implies, reduceCtorEq, h0, hS.1]
  have hc3 : fs_Ct g m_X3_forgetResult [.ref 50] ((S, fr), σ1, τ) (fun r M' => r = none ∧ ((S, fr), fs_u σ1 50 4 0, τ) = M') := by
    refine fs_enterC (by decide) (by simp [fs_ok]) (Nat.le_of_ble_eq_true rfl) (fun d => S_X3_forgetResult_0 ?_)
    show T_X3_forgetResult_0 g d _ [.ref 50] [] _
    simp only [T_X3_forgetResult_0, fi_const, fi_iload, fi_aload, fi_istore, fi_astore, fi_iinc, fi_bin, fi_div, fi_un, fi_dup, fi_dup2, fi_pop, fi_if, fi_cmp, fi_getf, fi_putf, fi_putr, fi_ald, fi_ast, fi_alen, fi_iret, fi_zret, fi_vret, fi_cut, fi_no, fi_s0, fi_s1, fi_s2, fi_s3, fi_s4, fi_v0, fi_v1, fi_v2, fi_v3, fi_v4, fi_v5, fi_n0, fi_n1, fi_n2, fi_mm, fi_stat, fi_alds, fi_tsw, List.getElem?_cons_zero, List.getElem?_cons_succ, List.set_cons_zero, List.set_cons_succ, List.length_cons, List.length_nil, Option.toList_some, Option.toList_none, List.cons_append, List.nil_append, Value.category, true_and, k_0, k_1, k_2, k_3, k_4, false_implies, true_implies, reduceCtorEq]
    simp only [fi_const, fi_iload, fi_aload, fi_istore, fi_astore, fi_iinc, fi_bin, fi_div, fi_un, fi_dup, fi_dup2, fi_pop, fi_if, fi_cmp, fi_getf, fi_putf, fi_putr, fi_ald, fi_ast, fi_alen, fi_iret, fi_zret, fi_vret, fi_cut, fi_no, fi_s0, fi_s1, fi_s2, fi_s3, fi_s4, fi_v0, fi_v1, fi_v2, fi_v3, fi_v4, fi_v5, fi_n0, fi_n1, fi_n2, fi_mm, fi_stat, fi_alds, fi_tsw, List.getElem?_cons_zero, List.getElem?_cons_succ, List.set_cons_zero, List.set_cons_succ, List.length_cons, List.length_nil, Option.toList_some, Option.toList_none, List.cons_append, List.nil_append, Value.category, true_and, k_0, k_1, k_2, k_3, k_4, false_implies, true_implies, reduceCtorEq, hS.1]
    simp
  refine ⟨by decide, ⟨_, rfl⟩, hc3.mono ?_⟩
  rintro r M' ⟨rfl, rfl⟩
  simp only [fi_const, fi_iload, fi_aload, fi_istore, fi_astore, fi_iinc, fi_bin, fi_div, fi_un, fi_dup, fi_dup2, fi_pop, fi_if, fi_cmp, fi_getf, fi_putf, fi_putr, fi_ald, fi_ast, fi_alen, fi_iret, fi_zret, fi_vret, fi_cut, fi_no, fi_s0, fi_s1, fi_s2, fi_s3, fi_s4, fi_v0, fi_v1, fi_v2, fi_v3, fi_v4, fi_v5, fi_n0, fi_n1, fi_n2, fi_mm, fi_stat, fi_alds, fi_tsw, List.getElem?_cons_zero, List.getElem?_cons_succ, List.set_cons_zero, List.set_cons_succ, List.length_cons, List.length_nil, Option.toList_some, Option.toList_none, List.cons_append, List.nil_append, Value.category, true_and, k_0, k_1, k_2, k_3, k_4, false_implies, true_implies, reduceCtorEq]
  refine ⟨_, rfl, ?_, fun a ha => by rw [fs_u_ne (by omega), c a (by omega)]⟩
  refine (h.keep (fun a h1 h2 h3 => by rw [fs_u_ne (by omega), c a (by omega)])).to ?_ (Or.inl (u_eq ..))
  have hco : cons (σ 12) (σ1 (2 + 6)) (σ1 (2 + 8)) nS := by
    rw [show 2 + 6 = 8 from rfl, show 2 + 8 = 10 from rfl, c 8 (by omega), c 10 (by omega)]
    intro i j f hi hj hf e1 e2
    rw [h5 i (by omega)] at e1
    rw [h5 j (by omega)] at e2
    rw [(h4 i hi).1, (h4 j hj).1, (h4 i hi).2.2.1, (h4 j hj).2.2.1]
    exact hN.2.2.2.2.2.1 i j f hi hj hf e1 e2
  have ht := hsh.tab hco
  unfold tab at ht ⊢
  rw [fs_u_ne (by decide), fs_u_ne (by decide), fs_u_ne (by decide), fs_u_ne (by decide), fs_u_ne (by decide), fs_u_ne (by decide), fs_u_ne (by decide), fs_u_ne (by decide), fs_u_ne (by decide), fs_u_ne (by decide), c 12 (by omega)]
  exact ht
def V0 : Vt := ldV (fun _ _ => 0) (Z0 (fun _ => 0) (fun _ => 0)).1 (Z0 (fun _ => 0) (fun _ => 0)).2.1
theorem okV_0 : okV V0 0 0 0 0 0 := okV_ld (V := fun _ _ => 0) (Z0_ok (fun _ => 0) (fun _ => 0))
def S56 : List fs_Sh := .inr (7, [some (some 1), none, none, some (some 2), some (some 14), some (some 20), some (some 26), some (some 46), some (some 48), some (some 50)]) :: .inl (.byte, 900) :: (shX4 2 ++ (shX0 14 2 ++ (shX0 20 2 ++ (shX2 26 1 ++ (shX1 46 ++ (shX5 48 14 ++ (shX3 50 2 14)))))))
theorem c_X8_init (h01 : σ 0 1 = 0) : fs_Ct g m_X8_init [.ref 0] (([.inr (7, rs_X8)], true), σ, τ) (fun r M' => r = none ∧ ∃ σ' τ', M' = ((S56, true), σ', τ') ∧ IC σ' V0 0 0 0 0 0) := by
  refine fs_enterC (by decide) (by simp [fs_ok]) (Nat.le_of_ble_eq_true rfl) (fun d => S_X8_init_0 ?_)
  show T_X8_init_0 g d _ [.ref 0] [] _
  simp only [T_X8_init_0, fi_const, fi_iload, fi_aload, fi_istore, fi_astore, fi_iinc, fi_bin, fi_div, fi_un, fi_dup, fi_dup2, fi_pop, fi_if, fi_cmp, fi_getf, fi_putf, fi_putr, fi_ald, fi_ast, fi_alen, fi_iret, fi_zret, fi_vret, fi_cut, fi_no, fi_s0, fi_s1, fi_s2, fi_s3, fi_s4, fi_v0, fi_v1, fi_v2, fi_v3, fi_v4, fi_v5, fi_n0, fi_n1, fi_n2, fi_mm, fi_stat, fi_alds, fi_tsw, List.getElem?_cons_zero, List.getElem?_cons_succ, List.set_cons_zero, List.set_cons_succ, List.length_cons, List.length_nil, Option.toList_some, Option.toList_none, List.cons_append, List.nil_append, Value.category, true_and, k_0, k_1, k_2, k_3, k_4, false_implies, true_implies, reduceCtorEq]
  simp only [fi_oinit, fi_new, fi_newa, rs_X8, fi_const, fi_iload, fi_aload, fi_istore, fi_astore, fi_iinc, fi_bin, fi_div, fi_un, fi_dup, fi_dup2, fi_pop, fi_if, fi_cmp, fi_getf, fi_putf, fi_putr, fi_ald, fi_ast, fi_alen, fi_iret, fi_zret, fi_vret, fi_cut, fi_no, fi_s0, fi_s1, fi_s2, fi_s3, fi_s4, fi_v0, fi_v1, fi_v2, fi_v3, fi_v4, fi_v5, fi_n0, fi_n1, fi_n2, fi_mm, fi_stat, fi_alds, fi_tsw, List.getElem?_cons_zero, List.getElem?_cons_succ, List.set_cons_zero, List.set_cons_succ, List.length_cons, List.length_nil, Option.toList_some, Option.toList_none, List.cons_append, List.nil_append, Value.category, true_and, k_0, k_1, k_2, k_3, k_4, false_implies, true_implies, reduceCtorEq]
  refine ⟨by decide, rfl, by decide, by decide, by decide, by decide, (c_X4_init' (P := .inr (7, [some (some 1), none, none, some none, some none, some none, some none, some none, some none, some none]) :: .inl (.byte, 900) :: ([])) (p := 2) rfl rfl (by decide)).mono ?_⟩
  rintro r M' ⟨rfl, σ1, τ1, rfl, k1, pr⟩
  simp only [fi_const, fi_iload, fi_aload, fi_istore, fi_astore, fi_iinc, fi_bin, fi_div, fi_un, fi_dup, fi_dup2, fi_pop, fi_if, fi_cmp, fi_getf, fi_putf, fi_putr, fi_ald, fi_ast, fi_alen, fi_iret, fi_zret, fi_vret, fi_cut, fi_no, fi_s0, fi_s1, fi_s2, fi_s3, fi_s4, fi_v0, fi_v1, fi_v2, fi_v3, fi_v4, fi_v5, fi_n0, fi_n1, fi_n2, fi_mm, fi_stat, fi_alds, fi_tsw, List.getElem?_cons_zero, List.getElem?_cons_succ, List.set_cons_zero, List.set_cons_succ, List.length_cons, List.length_nil, Option.toList_some, Option.toList_none, List.cons_append, List.nil_append, Value.category, true_and, k_0, k_1, k_2, k_3, k_4, false_implies, true_implies, reduceCtorEq, List.append_assoc, shX4, shX0, shX6, shX2, shX1, shX5, shX3]
  refine ⟨by decide, by decide, by decide, (c_X0_init' (P := .inr (7, [some (some 1), none, none, some (some 2), some none, some none, some none, some none, some none, some none]) :: .inl (.byte, 900) :: (shX4 2)) (p := 14) rfl rfl (by decide)).mono ?_⟩
  rintro r M' ⟨rfl, σ2, τ2, rfl, k2⟩
  simp only [fi_const, fi_iload, fi_aload, fi_istore, fi_astore, fi_iinc, fi_bin, fi_div, fi_un, fi_dup, fi_dup2, fi_pop, fi_if, fi_cmp, fi_getf, fi_putf, fi_putr, fi_ald, fi_ast, fi_alen, fi_iret, fi_zret, fi_vret, fi_cut, fi_no, fi_s0, fi_s1, fi_s2, fi_s3, fi_s4, fi_v0, fi_v1, fi_v2, fi_v3, fi_v4, fi_v5, fi_n0, fi_n1, fi_n2, fi_mm, fi_stat, fi_alds, fi_tsw, List.getElem?_cons_zero, List.getElem?_cons_succ, List.set_cons_zero, List.set_cons_succ, List.length_cons, List.length_nil, Option.toList_some, Option.toList_none, List.cons_append, List.nil_append, Value.category, true_and, k_0, k_1, k_2, k_3, k_4, false_implies, true_implies, reduceCtorEq, List.append_assoc, shX4, shX0, shX6, shX2, shX1, shX5, shX3]
  refine ⟨by decide, by decide, by decide, (c_X0_init' (P := .inr (7, [some (some 1), none, none, some (some 2), some (some 14), some none, some none, some none, some none, some none]) :: .inl (.byte, 900) :: (shX4 2 ++ (shX0 14 2))) (p := 20) rfl rfl (by decide)).mono ?_⟩
  rintro r M' ⟨rfl, σ3, τ3, rfl, k3⟩
  simp only [fi_const, fi_iload, fi_aload, fi_istore, fi_astore, fi_iinc, fi_bin, fi_div, fi_un, fi_dup, fi_dup2, fi_pop, fi_if, fi_cmp, fi_getf, fi_putf, fi_putr, fi_ald, fi_ast, fi_alen, fi_iret, fi_zret, fi_vret, fi_cut, fi_no, fi_s0, fi_s1, fi_s2, fi_s3, fi_s4, fi_v0, fi_v1, fi_v2, fi_v3, fi_v4, fi_v5, fi_n0, fi_n1, fi_n2, fi_mm, fi_stat, fi_alds, fi_tsw, List.getElem?_cons_zero, List.getElem?_cons_succ, List.set_cons_zero, List.set_cons_succ, List.length_cons, List.length_nil, Option.toList_some, Option.toList_none, List.cons_append, List.nil_append, Value.category, true_and, k_0, k_1, k_2, k_3, k_4, false_implies, true_implies, reduceCtorEq, List.append_assoc, shX4, shX0, shX6, shX2, shX1, shX5, shX3]
  refine ⟨by decide, by decide, by decide, (c_X2_init' (P := .inr (7, [some (some 1), none, none, some (some 2), some (some 14), some (some 20), some none, some none, some none, some none]) :: .inl (.byte, 900) :: (shX4 2 ++ (shX0 14 2 ++ (shX0 20 2)))) (p := 26) rfl rfl (by decide)).mono ?_⟩
  rintro r M' ⟨rfl, σ4, τ4, rfl, k4⟩
  simp only [fi_const, fi_iload, fi_aload, fi_istore, fi_astore, fi_iinc, fi_bin, fi_div, fi_un, fi_dup, fi_dup2, fi_pop, fi_if, fi_cmp, fi_getf, fi_putf, fi_putr, fi_ald, fi_ast, fi_alen, fi_iret, fi_zret, fi_vret, fi_cut, fi_no, fi_s0, fi_s1, fi_s2, fi_s3, fi_s4, fi_v0, fi_v1, fi_v2, fi_v3, fi_v4, fi_v5, fi_n0, fi_n1, fi_n2, fi_mm, fi_stat, fi_alds, fi_tsw, List.getElem?_cons_zero, List.getElem?_cons_succ, List.set_cons_zero, List.set_cons_succ, List.length_cons, List.length_nil, Option.toList_some, Option.toList_none, List.cons_append, List.nil_append, Value.category, true_and, k_0, k_1, k_2, k_3, k_4, false_implies, true_implies, reduceCtorEq, List.append_assoc, shX4, shX0, shX6, shX2, shX1, shX5, shX3]
  refine ⟨by decide, by decide, by decide, (c_X1_init' (P := .inr (7, [some (some 1), none, none, some (some 2), some (some 14), some (some 20), some (some 26), some none, some none, some none]) :: .inl (.byte, 900) :: (shX4 2 ++ (shX0 14 2 ++ (shX0 20 2 ++ (shX2 26 1))))) (p := 46) rfl rfl (by decide)).mono ?_⟩
  rintro r M' ⟨rfl, σ5, τ5, rfl, k5⟩
  simp only [fi_const, fi_iload, fi_aload, fi_istore, fi_astore, fi_iinc, fi_bin, fi_div, fi_un, fi_dup, fi_dup2, fi_pop, fi_if, fi_cmp, fi_getf, fi_putf, fi_putr, fi_ald, fi_ast, fi_alen, fi_iret, fi_zret, fi_vret, fi_cut, fi_no, fi_s0, fi_s1, fi_s2, fi_s3, fi_s4, fi_v0, fi_v1, fi_v2, fi_v3, fi_v4, fi_v5, fi_n0, fi_n1, fi_n2, fi_mm, fi_stat, fi_alds, fi_tsw, List.getElem?_cons_zero, List.getElem?_cons_succ, List.set_cons_zero, List.set_cons_succ, List.length_cons, List.length_nil, Option.toList_some, Option.toList_none, List.cons_append, List.nil_append, Value.category, true_and, k_0, k_1, k_2, k_3, k_4, false_implies, true_implies, reduceCtorEq, List.append_assoc, shX4, shX0, shX6, shX2, shX1, shX5, shX3]
  refine ⟨by decide, by decide, by decide, (c_X5_init' (P := .inr (7, [some (some 1), none, none, some (some 2), some (some 14), some (some 20), some (some 26), some (some 46), some none, some none]) :: .inl (.byte, 900) :: (shX4 2 ++ (shX0 14 2 ++ (shX0 20 2 ++ (shX2 26 1 ++ (shX1 46)))))) (p := 48) rfl rfl (by decide)).mono ?_⟩
  rintro r M' ⟨rfl, σ6, τ6, rfl, k6⟩
  simp only [fi_const, fi_iload, fi_aload, fi_istore, fi_astore, fi_iinc, fi_bin, fi_div, fi_un, fi_dup, fi_dup2, fi_pop, fi_if, fi_cmp, fi_getf, fi_putf, fi_putr, fi_ald, fi_ast, fi_alen, fi_iret, fi_zret, fi_vret, fi_cut, fi_no, fi_s0, fi_s1, fi_s2, fi_s3, fi_s4, fi_v0, fi_v1, fi_v2, fi_v3, fi_v4, fi_v5, fi_n0, fi_n1, fi_n2, fi_mm, fi_stat, fi_alds, fi_tsw, List.getElem?_cons_zero, List.getElem?_cons_succ, List.set_cons_zero, List.set_cons_succ, List.length_cons, List.length_nil, Option.toList_some, Option.toList_none, List.cons_append, List.nil_append, Value.category, true_and, k_0, k_1, k_2, k_3, k_4, false_implies, true_implies, reduceCtorEq, List.append_assoc, shX4, shX0, shX6, shX2, shX1, shX5, shX3]
  refine ⟨by decide, by decide, by decide, (c_X3_init' (P := .inr (7, [some (some 1), none, none, some (some 2), some (some 14), some (some 20), some (some 26), some (some 46), some (some 48), some none]) :: .inl (.byte, 900) :: (shX4 2 ++ (shX0 14 2 ++ (shX0 20 2 ++ (shX2 26 1 ++ (shX1 46 ++ (shX5 48 14))))))) (p := 50) rfl rfl (by decide)).mono ?_⟩
  rintro r M' ⟨rfl, σ7, τ7, rfl, k7⟩
  simp only [fi_const, fi_iload, fi_aload, fi_istore, fi_astore, fi_iinc, fi_bin, fi_div, fi_un, fi_dup, fi_dup2, fi_pop, fi_if, fi_cmp, fi_getf, fi_putf, fi_putr, fi_ald, fi_ast, fi_alen, fi_iret, fi_zret, fi_vret, fi_cut, fi_no, fi_s0, fi_s1, fi_s2, fi_s3, fi_s4, fi_v0, fi_v1, fi_v2, fi_v3, fi_v4, fi_v5, fi_n0, fi_n1, fi_n2, fi_mm, fi_stat, fi_alds, fi_tsw, List.getElem?_cons_zero, List.getElem?_cons_succ, List.set_cons_zero, List.set_cons_succ, List.length_cons, List.length_nil, Option.toList_some, Option.toList_none, List.cons_append, List.nil_append, Value.category, true_and, k_0, k_1, k_2, k_3, k_4, false_implies, true_implies, reduceCtorEq, List.append_assoc, shX4, shX0, shX6, shX2, shX1, shX5, shX3]
  have z : ∀ (σ : Nat → Nat → Int32) (n a : Nat), a ≠ n → fs_z σ n a = σ a := fun σ n a hn => funext fun b => by unfold fs_z; rw [if_neg hn]
  have e7 : ∀ a, a < 48 → σ7 a = σ5 a := fun a ha => by rw [k7 a (by omega), z _ _ _ (by omega), k6 a (by omega), z _ _ _ (by omega)]
  have e5 : ∀ a, a < 14 → σ5 a = σ1 a := fun a ha => by rw [k5 a (by omega), z _ _ _ (by omega), k4 a (by omega), z _ _ _ (by omega), k3 a (by omega), z _ _ _ (by omega), k2 a (by omega), z _ _ _ (by omega)]
  have e : ∀ a, a < 14 → σ7 a = σ1 a := fun a ha => (e7 a (by omega)).trans (e5 a ha)
  have e0 : ∀ b, σ7 0 b = fs_u (fs_z σ 1) 0 2 (-1) 0 b := fun b => by rw [e 0 (by omega), k1 0 (by omega), z _ _ _ (by omega)]
  have e46 : σ7 46 0 = 0 := by rw [e7 46 (by omega), k5 46 (by omega)]; simp [fs_z]
  have hI0 : IC0 σ7 V0 0 0 0 0 0 := by
    obtain ⟨p1, p2, p3, p4, p5⟩ := pr
    refine ⟨⟨by rw [e 2 (by omega)]; exact p1, by rw [e 2 (by omega)]; exact p2, by rw [e 2 (by omega)]; exact p3⟩, fun l hl => absurd hl (Nat.not_lt_zero l), fun l hl => absurd hl (Nat.not_lt_zero l), fun l hl => absurd hl (Nat.not_lt_zero l), fun k hk => ?_, fun i hi => ?_, e46, fun b hb => absurd hb (by omega), ?_, fun i hi => absurd hi (Nat.not_lt_zero i), ?_⟩
    · rw [e 12 (by omega), show σ1 12 k = -1 from p4 k hk]
      show _ = V0 4 (4 + k)
      unfold V0
      rw [ldV_4]
      show _ = (if 4 + k < 18 then ([24, 100, 50, 4] : List Int32).getD (4 + k) (-1) else 0)
      rw [if_pos (by omega)]
      simp [List.getD_eq_getElem?_getD]
    · rw [e 13 (by omega), show σ1 13 i = _ from p5 i hi]
      show _ = V0 4 i
      unfold V0
      rw [ldV_4]
      show _ = (if i < 18 then ([24, 100, 50, 4] : List Int32).getD i (-1) else 0)
      rw [if_pos (by omega)]
      have : i = 0 ∨ i = 1 ∨ i = 2 ∨ i = 3 := by omega
      rcases this with rfl | rfl | rfl | rfl <;> rfl
    · rw [e0 1]; simp only [fs_u]; rw [if_neg (by decide), z _ _ _ (by decide)]; exact h01
    · rw [e0 2]; simp [fs_u, V0, ldV]
  refine ⟨by decide, by decide, ⟨_, rfl⟩, ?_⟩
  refine (c_refresh0 (S := S56) (V := V0) (nL := 0) (nA := 0) (nS := 0) (kp := 0) (nb := 0) rfl ⟨rfl, rfl, rfl, rfl, rfl, rfl, rfl, rfl, rfl, rfl, rfl, rfl⟩ ⟨rfl, rfl, rfl, rfl, rfl, rfl⟩ ⟨rfl, rfl, rfl, rfl, rfl, rfl⟩ okV_0.1 okV_0.2.1 hI0).mono ?_
  rintro r M' ⟨rfl, σ', rfl, h8, -⟩
  simp only [fi_const, fi_iload, fi_aload, fi_istore, fi_astore, fi_iinc, fi_bin, fi_div, fi_un, fi_dup, fi_dup2, fi_pop, fi_if, fi_cmp, fi_getf, fi_putf, fi_putr, fi_ald, fi_ast, fi_alen, fi_iret, fi_zret, fi_vret, fi_cut, fi_no, fi_s0, fi_s1, fi_s2, fi_s3, fi_s4, fi_v0, fi_v1, fi_v2, fi_v3, fi_v4, fi_v5, fi_n0, fi_n1, fi_n2, fi_mm, fi_stat, fi_alds, fi_tsw, List.getElem?_cons_zero, List.getElem?_cons_succ, List.set_cons_zero, List.set_cons_succ, List.length_cons, List.length_nil, Option.toList_some, Option.toList_none, List.cons_append, List.nil_append, Value.category, true_and, k_0, k_1, k_2, k_3, k_4, false_implies, true_implies, reduceCtorEq]
  exact ⟨σ', _, rfl, h8⟩
def shX9 : List fs_Sh := [.inr (8, [none, some (some 57), none, some (some 58), some (some 59), some (some 60), some (some 61), some (some 62), some (some 63), none, none, none, none, none, none, none, none, none, none, none, none, none, some (some 64), none, none, some (some 65), none, none, some (some 66), some (some 67), some (some 68), none, none]), .inl (.int, 900), .inl (.int, 83), .inl (.int, 83), .inl (.int, 18), .inl (.int, 18), .inl (.int, 18), .inl (.int, 216), .inl (.int, 12), .inl (.int, 64), .inl (.int, 7), .inl (.int, 7), .inl (.int, 7)]
theorem shM_9 (h : P.length = 56) : shM (P ++ shX9) 56 := by
  unfold shM
  rw [ap_get0 h, ap_get h 1, ap_get h 2, ap_get h 3, ap_get h 4, ap_get h 5, ap_get h 6, ap_get h 7, ap_get h 8, ap_get h 9, ap_get h 10, ap_get h 11, ap_get h 12]
  exact ⟨rfl, rfl, rfl, rfl, rfl, rfl, rfl, rfl, rfl, rfl, rfl, rfl, rfl⟩
theorem c_X9_init (h : P.length = 56) (hz : ∀ b, σ 56 b = 0) : fs_Ct g m_X9_init [.ref 56] ((P ++ [.inr (8, rs_X9)], true), σ, τ) (fun r M' => r = none ∧ ∃ σ' τ', M' = ((P ++ shX9, true), σ', τ') ∧ IM σ' V0 0 0 ∧ ctK 56 σ σ') := by
  refine fs_enterC (by decide) (by simp [fs_ok]) (Nat.le_of_ble_eq_true rfl) (fun d => S_X9_init_0 ?_)
  show T_X9_init_0 g d _ [.ref 56] [] _
  simp only [T_X9_init_0, fi_const, fi_iload, fi_aload, fi_istore, fi_astore, fi_iinc, fi_bin, fi_div, fi_un, fi_dup, fi_dup2, fi_pop, fi_if, fi_cmp, fi_getf, fi_putf, fi_putr, fi_ald, fi_ast, fi_alen, fi_iret, fi_zret, fi_vret, fi_cut, fi_no, fi_s0, fi_s1, fi_s2, fi_s3, fi_s4, fi_v0, fi_v1, fi_v2, fi_v3, fi_v4, fi_v5, fi_n0, fi_n1, fi_n2, fi_mm, fi_stat, fi_alds, fi_tsw, List.getElem?_cons_zero, List.getElem?_cons_succ, List.set_cons_zero, List.set_cons_succ, List.length_cons, List.length_nil, Option.toList_some, Option.toList_none, List.cons_append, List.nil_append, Value.category, true_and, k_0, k_1, k_2, k_3, k_4, false_implies, true_implies, reduceCtorEq]
  simp only [fi_oinit, fi_newa, ap_get0 h, ap_set0 h, ap_len h, List.append_assoc, rs_X9, fi_const, fi_iload, fi_aload, fi_istore, fi_astore, fi_iinc, fi_bin, fi_div, fi_un, fi_dup, fi_dup2, fi_pop, fi_if, fi_cmp, fi_getf, fi_putf, fi_putr, fi_ald, fi_ast, fi_alen, fi_iret, fi_zret, fi_vret, fi_cut, fi_no, fi_s0, fi_s1, fi_s2, fi_s3, fi_s4, fi_v0, fi_v1, fi_v2, fi_v3, fi_v4, fi_v5, fi_n0, fi_n1, fi_n2, fi_mm, fi_stat, fi_alds, fi_tsw, List.getElem?_cons_zero, List.getElem?_cons_succ, List.set_cons_zero, List.set_cons_succ, List.length_cons, List.length_nil, Option.toList_some, Option.toList_none, List.cons_append, List.nil_append, Value.category, true_and, k_0, k_1, k_2, k_3, k_4, false_implies, true_implies, reduceCtorEq]
  refine ⟨by decide, rfl, by decide, by decide, rfl, by decide, by decide, rfl, by decide, by decide, rfl, by decide, by decide, rfl, by decide, by decide, rfl, by decide, by decide, rfl, by decide, by decide, rfl, by decide, by decide, rfl, by decide, by decide, rfl, by decide, by decide, rfl, by decide, by decide, rfl, by decide, by decide, by decide, ⟨_, rfl⟩, ?_⟩
  refine (c_newFilm (S := P ++ shX9) (shM_9 h)).mono ?_
  rintro r M' ⟨rfl, σ', rfl, r1, r2, r3⟩
  simp only [fi_const, fi_iload, fi_aload, fi_istore, fi_astore, fi_iinc, fi_bin, fi_div, fi_un, fi_dup, fi_dup2, fi_pop, fi_if, fi_cmp, fi_getf, fi_putf, fi_putr, fi_ald, fi_ast, fi_alen, fi_iret, fi_zret, fi_vret, fi_cut, fi_no, fi_s0, fi_s1, fi_s2, fi_s3, fi_s4, fi_v0, fi_v1, fi_v2, fi_v3, fi_v4, fi_v5, fi_n0, fi_n1, fi_n2, fi_mm, fi_stat, fi_alds, fi_tsw, List.getElem?_cons_zero, List.getElem?_cons_succ, List.set_cons_zero, List.set_cons_succ, List.length_cons, List.length_nil, Option.toList_some, Option.toList_none, List.cons_append, List.nil_append, Value.category, true_and, k_0, k_1, k_2, k_3, k_4, false_implies, true_implies, reduceCtorEq]
  have a1 : σ' 58 = (Z0 (fun _ => 0) (fun _ => 0)).1 := by rw [r2]; congr 2 <;> (funext b; simp [fs_z, fs_u])
  have a2 : σ' 60 = (Z0 (fun _ => 0) (fun _ => 0)).2.1 := by rw [r3]; congr 3 <;> (funext b; simp [fs_z, fs_u])
  refine ⟨σ', _, rfl, ⟨by rw [a1]; unfold V0; rw [ldV_2], by rw [a2]; unfold V0; rw [ldV_4], fun b hb => absurd hb (by omega), fun i hi => absurd hi (Nat.not_lt_zero i), ?_, ?_, ?_⟩, fun a ha => ?_⟩
  · rw [r1 56 (by decide) (by decide)]; simp [fs_z, fs_u, V0, ldV, hz]
  · rw [r1 56 (by decide) (by decide)]; simp [fs_z, fs_u, V0, ldV, hz]
  · rw [r1 56 (by decide) (by decide)]; simp [fs_z, fs_u, V0, ldV, hz]
  · rw [r1 a (by omega) (by omega)]
    funext b
    simp only [fs_z, fs_u]
    repeat rw [if_neg (by omega)]
end CT2
