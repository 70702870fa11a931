/-! ===== the law: questions by helpers ===== -/
theorem fh_Ct.mono {g : fs_G} {μ : fs_I} {hh : fh_H} {av : List Value} {M : fs_M} {Q Q' : Option Value → fs_M → Prop} (h : fh_Ct g μ hh av M Q) (hQ : ∀ r M', Q r M' → Q' r M') : fh_Ct g μ hh av M Q' := fun d hd => by
  have h := h d hd
  unfold fh_T Met at h ⊢
  exact MetFree.mono h (fun _ _ x => x) (fun _ _ _ _ _ x => x) (fun _ _ _ _ _ ⟨⟨⟨r, M', e1, e2, e3⟩, e4⟩, e5⟩ => ⟨⟨⟨r, M', e1, hQ r M' e2, e3⟩, e4⟩, e5⟩)
theorem inI_no {x : Int32} {n : Nat} (h : ¬ inI x n) : x < 0 ∨ ¬ x < nI n := by
  by_cases q : x < 0
  · exact Or.inl q
  · refine Or.inr (fun z => h ⟨q, fun w => ?_⟩)
    exact (nlt_iff x n).mpr w z
theorem inI_yes {x : Int32} {n : Nat} (h : inI x n) : ¬ x < 0 ∧ x < nI n := ⟨h.1, Decidable.byContradiction fun z => h.2 ((nlt_iff x n).mp z)⟩
theorem lgc (x : Int64) : lg_cmp x x = 0 := by simp [lg_cmp]
section LC3
variable {g : fs_G} {N d i : Nat} {u : Nat × Nat} {fr : Bool} {σ : Nat → Nat → Int32} {τ : Nat → Nat → Int64} {V : Vt} {nL nA nS kp nb : Nat} {Q : Option Value → fs_M → Prop} {v5 v6 : Value} {S : List fs_Sh}
theorem c_thrown (hM : shM S 56) : fs_Ct g m_X9_thrown [.ref 56] ((S, fr), σ, τ) (fun r M' => r = some (.int (σ 56 0)) ∧ M' = ((S, fr), σ, τ)) := by
  refine fs_enterC (by decide) (by simp [fs_ok]) (Nat.le_of_ble_eq_true rfl) (fun d => S_X9_thrown_0 ?_)
  show T_X9_thrown_0 g d _ [.ref 56] [] _
  simp only [T_X9_thrown_0, fi_const, fi_iload, fi_aload, fi_istore, fi_astore, fi_iinc, fi_bin, fi_div, fi_un, fi_dup, fi_dup2, fi_pop, fi_if, fi_cmp, fi_getf, fi_putf, fi_putr, fi_ald, fi_ast, fi_alen, fi_iret, fi_zret, fi_vret, fi_cut, fi_no, fi_s0, fi_s1, fi_s2, fi_s3, fi_s4, fi_v0, fi_v1, fi_v2, fi_v3, fi_v4, fi_v5, fi_n0, fi_n1, fi_n2, fi_mm, fi_stat, fi_alds, fi_tsw, List.getElem?_cons_zero, List.getElem?_cons_succ, List.set_cons_zero, List.set_cons_succ, List.length_cons, List.length_nil, Option.toList_some, Option.toList_none, List.cons_append, List.nil_append, Value.category, true_and, k_0, k_1, k_2, k_3, k_4, false_implies, true_implies, reduceCtorEq]
  simp only [fi_const, fi_iload, fi_aload, fi_istore, fi_astore, fi_iinc, fi_bin, fi_div, fi_un, fi_dup, fi_dup2, fi_pop, fi_if, fi_cmp, fi_getf, fi_putf, fi_putr, fi_ald, fi_ast, fi_alen, fi_iret, fi_zret, fi_vret, fi_cut, fi_no, fi_s0, fi_s1, fi_s2, fi_s3, fi_s4, fi_v0, fi_v1, fi_v2, fi_v3, fi_v4, fi_v5, fi_n0, fi_n1, fi_n2, fi_mm, fi_stat, fi_alds, fi_tsw, List.getElem?_cons_zero, List.getElem?_cons_succ, List.set_cons_zero, List.set_cons_succ, List.length_cons, List.length_nil, Option.toList_some, Option.toList_none, List.cons_append, List.nil_append, Value.category, true_and, k_0, k_1, k_2, k_3, k_4, false_implies, true_implies, reduceCtorEq, hM.1]
theorem uL_eq (τ : Nat → Nat → Int64) (a b : Nat) (x : Int64) : fs_uL τ a b x a b = x := by simp [fs_uL]
theorem L_feeOf (hl : g.1.stackTraces = false) (hp : LPs σ V nL nA nS kp nb) (hi : i < N) (hu : bd u i) (hx : scO g i) (K : nxt g N d i Q) : fs_R g (m_L_law N) d u 550 (lls i v5 v6) [] ((S70, fr), σ, τ) Q := by
  obtain ⟨hT, hN, h9, -⟩ := id hp.1
  have hA := hT.2.2.2.2.1
  have hC := hp.2.1
  have hM := S70_X.m
  have i0 : vp_in 0 1 := pk_in 0 1 (by decide) (by decide) (by decide)
  refine S_L_law_550 (hu.B hi) ?_
  simp only [T_L_law_550, lls, fi_scr, sc_1, sc_2, scI hx (show 1 < 6 by decide), scI hx (show 2 < 6 by decide), scC hx (show 1 < 6 by decide), scC hx (show 2 < 6 by decide), fi_h3, fi_h4, fi_const, fi_iload, fi_aload, fi_istore, fi_astore, fi_iinc, fi_bin, fi_div, fi_un, fi_dup, fi_dup2, fi_pop, fi_if, fi_cmp, fi_getf, fi_putf, fi_putr, fi_ald, fi_ast, fi_alen, fi_iret, fi_zret, fi_vret, fi_cut, fi_no, fi_s0, fi_s1, fi_s2, fi_s3, fi_s4, fi_v0, fi_v1, fi_v2, fi_v3, fi_v4, fi_v5, fi_n0, fi_n1, fi_n2, fi_mm, fi_stat, fi_alds, fi_tsw, List.getElem?_cons_zero, List.getElem?_cons_succ, List.set_cons_zero, List.set_cons_succ, List.length_cons, List.length_nil, Option.toList_some, Option.toList_none, List.cons_append, List.nil_append, Value.category, true_and, k_0, k_1, k_2, k_3, k_4, false_implies, true_implies, reduceCtorEq]
  by_cases q : inI (fs_Xs g (6 * i + 1)) nA
  · obtain ⟨a, ha, e⟩ := inI_nat q (by omega)
    rw [e]
    refine ⟨by decide, (h_feeOf S70_X S70_O (a_feeOf S70_X hT ha) hC).mono ?_⟩
    rintro r M' ⟨rfl, σ1, rfl, h1, s1⟩
    simp only [fi_const, fi_iload, fi_aload, fi_istore, fi_astore, fi_iinc, fi_bin, fi_div, fi_un, fi_dup, fi_dup2, fi_pop, fi_if, fi_cmp, fi_getf, fi_putf, fi_putr, fi_ald, fi_ast, fi_alen, fi_iret, fi_zret, fi_vret, fi_cut, fi_no, fi_s0, fi_s1, fi_s2, fi_s3, fi_s4, fi_v0, fi_v1, fi_v2, fi_v3, fi_v4, fi_v5, fi_n0, fi_n1, fi_n2, fi_mm, fi_stat, fi_alds, fi_tsw, List.getElem?_cons_zero, List.getElem?_cons_succ, List.set_cons_zero, List.set_cons_succ, List.length_cons, List.length_nil, Option.toList_some, Option.toList_none, List.cons_append, List.nil_append, Value.category, true_and, k_0, k_1, k_2, k_3, k_4, false_implies, true_implies, reduceCtorEq]
    refine ⟨by decide, ⟨_, hM.1⟩, (b_feeOf S70_X hT ha σ1 (hp.2.2.hi s1)).mono ?_⟩
    rintro r M' ⟨rfl, σ2, rfl, h2, s2, t2⟩
    simp only [fi_const, fi_iload, fi_aload, fi_istore, fi_astore, fi_iinc, fi_bin, fi_div, fi_un, fi_dup, fi_dup2, fi_pop, fi_if, fi_cmp, fi_getf, fi_putf, fi_putr, fi_ald, fi_ast, fi_alen, fi_iret, fi_zret, fi_vret, fi_cut, fi_no, fi_s0, fi_s1, fi_s2, fi_s3, fi_s4, fi_v0, fi_v1, fi_v2, fi_v3, fi_v4, fi_v5, fi_n0, fi_n1, fi_n2, fi_mm, fi_stat, fi_alds, fi_tsw, List.getElem?_cons_zero, List.getElem?_cons_succ, List.set_cons_zero, List.set_cons_succ, List.length_cons, List.length_nil, Option.toList_some, Option.toList_none, List.cons_append, List.nil_append, Value.category, true_and, k_0, k_1, k_2, k_3, k_4, false_implies, true_implies, reduceCtorEq]
    refine ⟨by decide, ⟨_, hM.1⟩, (c_thrown hM).mono ?_⟩
    rintro r M' ⟨rfl, rfl⟩
    rw [t2]
    simp only [fi_lald, fi_i2l, fi_lcmp, S70_O, i0, uL_eq, lgc, fi_const, fi_iload, fi_aload, fi_istore, fi_astore, fi_iinc, fi_bin, fi_div, fi_un, fi_dup, fi_dup2, fi_pop, fi_if, fi_cmp, fi_getf, fi_putf, fi_putr, fi_ald, fi_ast, fi_alen, fi_iret, fi_zret, fi_vret, fi_cut, fi_no, fi_s0, fi_s1, fi_s2, fi_s3, fi_s4, fi_v0, fi_v1, fi_v2, fi_v3, fi_v4, fi_v5, fi_n0, fi_n1, fi_n2, fi_mm, fi_stat, fi_alds, fi_tsw, List.getElem?_cons_zero, List.getElem?_cons_succ, List.set_cons_zero, List.set_cons_succ, List.length_cons, List.length_nil, Option.toList_some, Option.toList_none, List.cons_append, List.nil_append, Value.category, true_and, k_0, k_1, k_2, k_3, k_4, false_implies, true_implies, reduceCtorEq]
    exact ⟨⟨⟨K _ σ2 _ fr _ _ ⟨V, nL, nA, nS, kp, nb, hp.1, h1.low (fun a ha => s2 a (by omega)), h2⟩ hu.h, fun z => absurd trivial z⟩, fun z => absurd trivial z⟩, fun z => absurd trivial z⟩
  · refine ⟨by decide, (y_feeOf S70_X hl (by rw [hC.1.2.1]; exact inI_no q)).mono ?_⟩
    rintro r M' ⟨rfl, rfl⟩
    simp only [fi_const, fi_iload, fi_aload, fi_istore, fi_astore, fi_iinc, fi_bin, fi_div, fi_un, fi_dup, fi_dup2, fi_pop, fi_if, fi_cmp, fi_getf, fi_putf, fi_putr, fi_ald, fi_ast, fi_alen, fi_iret, fi_zret, fi_vret, fi_cut, fi_no, fi_s0, fi_s1, fi_s2, fi_s3, fi_s4, fi_v0, fi_v1, fi_v2, fi_v3, fi_v4, fi_v5, fi_n0, fi_n1, fi_n2, fi_mm, fi_stat, fi_alds, fi_tsw, List.getElem?_cons_zero, List.getElem?_cons_succ, List.set_cons_zero, List.set_cons_succ, List.length_cons, List.length_nil, Option.toList_some, Option.toList_none, List.cons_append, List.nil_append, Value.category, true_and, k_0, k_1, k_2, k_3, k_4, false_implies, true_implies, reduceCtorEq]
    refine ⟨by decide, ⟨_, hM.1⟩, (b_feeOf_x S70_X hT q σ hp.2.2).mono ?_⟩
    rintro r M' ⟨rfl, σ2, rfl, h2, s2, t2⟩
    simp only [fi_const, fi_iload, fi_aload, fi_istore, fi_astore, fi_iinc, fi_bin, fi_div, fi_un, fi_dup, fi_dup2, fi_pop, fi_if, fi_cmp, fi_getf, fi_putf, fi_putr, fi_ald, fi_ast, fi_alen, fi_iret, fi_zret, fi_vret, fi_cut, fi_no, fi_s0, fi_s1, fi_s2, fi_s3, fi_s4, fi_v0, fi_v1, fi_v2, fi_v3, fi_v4, fi_v5, fi_n0, fi_n1, fi_n2, fi_mm, fi_stat, fi_alds, fi_tsw, List.getElem?_cons_zero, List.getElem?_cons_succ, List.set_cons_zero, List.set_cons_succ, List.length_cons, List.length_nil, Option.toList_some, Option.toList_none, List.cons_append, List.nil_append, Value.category, true_and, k_0, k_1, k_2, k_3, k_4, false_implies, true_implies, reduceCtorEq]
    refine ⟨by decide, ⟨_, hM.1⟩, (c_thrown hM).mono ?_⟩
    rintro r M' ⟨rfl, rfl⟩
    rw [t2]
    simp only [fi_lald, fi_i2l, fi_lcmp, S70_O, fi_const, fi_iload, fi_aload, fi_istore, fi_astore, fi_iinc, fi_bin, fi_div, fi_un, fi_dup, fi_dup2, fi_pop, fi_if, fi_cmp, fi_getf, fi_putf, fi_putr, fi_ald, fi_ast, fi_alen, fi_iret, fi_zret, fi_vret, fi_cut, fi_no, fi_s0, fi_s1, fi_s2, fi_s3, fi_s4, fi_v0, fi_v1, fi_v2, fi_v3, fi_v4, fi_v5, fi_n0, fi_n1, fi_n2, fi_mm, fi_stat, fi_alds, fi_tsw, List.getElem?_cons_zero, List.getElem?_cons_succ, List.set_cons_zero, List.set_cons_succ, List.length_cons, List.length_nil, Option.toList_some, Option.toList_none, List.cons_append, List.nil_append, Value.category, true_and, k_0, k_1, k_2, k_3, k_4, false_implies, true_implies, reduceCtorEq]
    exact ⟨⟨fun z => absurd z (by decide), fun _ => K _ σ2 _ false _ _ ⟨V, nL, nA, nS, kp, nb, hp.1, hC.low (fun a ha => s2 a (by omega)), h2⟩ hu.h⟩, fun z => absurd trivial z⟩
theorem L_locationProperty (hl : g.1.stackTraces = false) (hp : LPs σ V nL nA nS kp nb) (hi : i < N) (hu : bd u i) (hx : scO g i) (K : nxt g N d i Q) : fs_R g (m_L_law N) d u 482 (lls i v5 v6) [] ((S70, fr), σ, τ) Q := by
  obtain ⟨hT, hN, h9, -⟩ := id hp.1
  have hLL := hT.2.2.2.1
  have hAA := hT.2.2.2.2.1
  have hSS := hT.2.2.2.2.2.1
  have hC := hp.2.1
  have hM := S70_X.m
  have i0 : vp_in 0 1 := pk_in 0 1 (by decide) (by decide) (by decide)
  refine S_L_law_482 (hu.B hi) ?_
  simp only [T_L_law_482, lls, fi_scr, sc_1, sc_2, scI hx (show 1 < 6 by decide), scI hx (show 2 < 6 by decide), scC hx (show 1 < 6 by decide), scC hx (show 2 < 6 by decide), fi_h3, fi_h4, fi_const, fi_iload, fi_aload, fi_istore, fi_astore, fi_iinc, fi_bin, fi_div, fi_un, fi_dup, fi_dup2, fi_pop, fi_if, fi_cmp, fi_getf, fi_putf, fi_putr, fi_ald, fi_ast, fi_alen, fi_iret, fi_zret, fi_vret, fi_cut, fi_no, fi_s0, fi_s1, fi_s2, fi_s3, fi_s4, fi_v0, fi_v1, fi_v2, fi_v3, fi_v4, fi_v5, fi_n0, fi_n1, fi_n2, fi_mm, fi_stat, fi_alds, fi_tsw, List.getElem?_cons_zero, List.getElem?_cons_succ, List.set_cons_zero, List.set_cons_succ, List.length_cons, List.length_nil, Option.toList_some, Option.toList_none, List.cons_append, List.nil_append, Value.category, true_and, k_0, k_1, k_2, k_3, k_4, false_implies, true_implies, reduceCtorEq]
  by_cases q : inI (fs_Xs g (6 * i + 1)) nL
  · obtain ⟨a, ha, e⟩ := inI_nat q (by omega)
    rw [e]
    refine ⟨by decide, (h_locationProperty S70_X S70_O (a_locationProperty S70_X hT ha _) hC).mono ?_⟩
    rintro r M' ⟨rfl, σ1, rfl, h1, s1⟩
    simp only [fi_const, fi_iload, fi_aload, fi_istore, fi_astore, fi_iinc, fi_bin, fi_div, fi_un, fi_dup, fi_dup2, fi_pop, fi_if, fi_cmp, fi_getf, fi_putf, fi_putr, fi_ald, fi_ast, fi_alen, fi_iret, fi_zret, fi_vret, fi_cut, fi_no, fi_s0, fi_s1, fi_s2, fi_s3, fi_s4, fi_v0, fi_v1, fi_v2, fi_v3, fi_v4, fi_v5, fi_n0, fi_n1, fi_n2, fi_mm, fi_stat, fi_alds, fi_tsw, List.getElem?_cons_zero, List.getElem?_cons_succ, List.set_cons_zero, List.set_cons_succ, List.length_cons, List.length_nil, Option.toList_some, Option.toList_none, List.cons_append, List.nil_append, Value.category, true_and, k_0, k_1, k_2, k_3, k_4, false_implies, true_implies, reduceCtorEq]
    refine ⟨by decide, ⟨_, hM.1⟩, (b_locationProperty S70_X hT ha _ σ1 (hp.2.2.hi s1)).mono ?_⟩
    rintro r M' ⟨rfl, σ2, rfl, h2, s2, t2⟩
    simp only [fi_const, fi_iload, fi_aload, fi_istore, fi_astore, fi_iinc, fi_bin, fi_div, fi_un, fi_dup, fi_dup2, fi_pop, fi_if, fi_cmp, fi_getf, fi_putf, fi_putr, fi_ald, fi_ast, fi_alen, fi_iret, fi_zret, fi_vret, fi_cut, fi_no, fi_s0, fi_s1, fi_s2, fi_s3, fi_s4, fi_v0, fi_v1, fi_v2, fi_v3, fi_v4, fi_v5, fi_n0, fi_n1, fi_n2, fi_mm, fi_stat, fi_alds, fi_tsw, List.getElem?_cons_zero, List.getElem?_cons_succ, List.set_cons_zero, List.set_cons_succ, List.length_cons, List.length_nil, Option.toList_some, Option.toList_none, List.cons_append, List.nil_append, Value.category, true_and, k_0, k_1, k_2, k_3, k_4, false_implies, true_implies, reduceCtorEq]
    refine ⟨by decide, ⟨_, hM.1⟩, (c_thrown hM).mono ?_⟩
    rintro r M' ⟨rfl, rfl⟩
    rw [t2]
    simp only [fi_lald, fi_i2l, fi_lcmp, S70_O, i0, uL_eq, lgc, fi_const, fi_iload, fi_aload, fi_istore, fi_astore, fi_iinc, fi_bin, fi_div, fi_un, fi_dup, fi_dup2, fi_pop, fi_if, fi_cmp, fi_getf, fi_putf, fi_putr, fi_ald, fi_ast, fi_alen, fi_iret, fi_zret, fi_vret, fi_cut, fi_no, fi_s0, fi_s1, fi_s2, fi_s3, fi_s4, fi_v0, fi_v1, fi_v2, fi_v3, fi_v4, fi_v5, fi_n0, fi_n1, fi_n2, fi_mm, fi_stat, fi_alds, fi_tsw, List.getElem?_cons_zero, List.getElem?_cons_succ, List.set_cons_zero, List.set_cons_succ, List.length_cons, List.length_nil, Option.toList_some, Option.toList_none, List.cons_append, List.nil_append, Value.category, true_and, k_0, k_1, k_2, k_3, k_4, false_implies, true_implies, reduceCtorEq]
    exact ⟨⟨⟨K _ σ2 _ fr _ _ ⟨V, nL, nA, nS, kp, nb, hp.1, h1.low (fun a ha => s2 a (by omega)), h2⟩ hu.h, fun z => absurd trivial z⟩, fun z => absurd trivial z⟩, fun z => absurd trivial z⟩
  · refine ⟨by decide, (y_locationProperty S70_X hl (by rw [hC.1.1]; exact inI_no q)).mono ?_⟩
    rintro r M' ⟨rfl, rfl⟩
    simp only [fi_const, fi_iload, fi_aload, fi_istore, fi_astore, fi_iinc, fi_bin, fi_div, fi_un, fi_dup, fi_dup2, fi_pop, fi_if, fi_cmp, fi_getf, fi_putf, fi_putr, fi_ald, fi_ast, fi_alen, fi_iret, fi_zret, fi_vret, fi_cut, fi_no, fi_s0, fi_s1, fi_s2, fi_s3, fi_s4, fi_v0, fi_v1, fi_v2, fi_v3, fi_v4, fi_v5, fi_n0, fi_n1, fi_n2, fi_mm, fi_stat, fi_alds, fi_tsw, List.getElem?_cons_zero, List.getElem?_cons_succ, List.set_cons_zero, List.set_cons_succ, List.length_cons, List.length_nil, Option.toList_some, Option.toList_none, List.cons_append, List.nil_append, Value.category, true_and, k_0, k_1, k_2, k_3, k_4, false_implies, true_implies, reduceCtorEq]
    refine ⟨by decide, ⟨_, hM.1⟩, (b_locationProperty_x S70_X hT (q) _ σ hp.2.2).mono ?_⟩
    rintro r M' ⟨rfl, σ2, rfl, h2, s2, t2⟩
    simp only [fi_const, fi_iload, fi_aload, fi_istore, fi_astore, fi_iinc, fi_bin, fi_div, fi_un, fi_dup, fi_dup2, fi_pop, fi_if, fi_cmp, fi_getf, fi_putf, fi_putr, fi_ald, fi_ast, fi_alen, fi_iret, fi_zret, fi_vret, fi_cut, fi_no, fi_s0, fi_s1, fi_s2, fi_s3, fi_s4, fi_v0, fi_v1, fi_v2, fi_v3, fi_v4, fi_v5, fi_n0, fi_n1, fi_n2, fi_mm, fi_stat, fi_alds, fi_tsw, List.getElem?_cons_zero, List.getElem?_cons_succ, List.set_cons_zero, List.set_cons_succ, List.length_cons, List.length_nil, Option.toList_some, Option.toList_none, List.cons_append, List.nil_append, Value.category, true_and, k_0, k_1, k_2, k_3, k_4, false_implies, true_implies, reduceCtorEq]
    refine ⟨by decide, ⟨_, hM.1⟩, (c_thrown hM).mono ?_⟩
    rintro r M' ⟨rfl, rfl⟩
    rw [t2]
    simp only [fi_lald, fi_i2l, fi_lcmp, S70_O, fi_const, fi_iload, fi_aload, fi_istore, fi_astore, fi_iinc, fi_bin, fi_div, fi_un, fi_dup, fi_dup2, fi_pop, fi_if, fi_cmp, fi_getf, fi_putf, fi_putr, fi_ald, fi_ast, fi_alen, fi_iret, fi_zret, fi_vret, fi_cut, fi_no, fi_s0, fi_s1, fi_s2, fi_s3, fi_s4, fi_v0, fi_v1, fi_v2, fi_v3, fi_v4, fi_v5, fi_n0, fi_n1, fi_n2, fi_mm, fi_stat, fi_alds, fi_tsw, List.getElem?_cons_zero, List.getElem?_cons_succ, List.set_cons_zero, List.set_cons_succ, List.length_cons, List.length_nil, Option.toList_some, Option.toList_none, List.cons_append, List.nil_append, Value.category, true_and, k_0, k_1, k_2, k_3, k_4, false_implies, true_implies, reduceCtorEq]
    exact ⟨⟨fun z => absurd z (by decide), fun _ => K _ σ2 _ false _ _ ⟨V, nL, nA, nS, kp, nb, hp.1, hC.low (fun a ha => s2 a (by omega)), h2⟩ hu.h⟩, fun z => absurd trivial z⟩
theorem L_sceneProperty (hl : g.1.stackTraces = false) (hp : LPs σ V nL nA nS kp nb) (hi : i < N) (hu : bd u i) (hx : scO g i) (K : nxt g N d i Q) : fs_R g (m_L_law N) d u 606 (lls i v5 v6) [] ((S70, fr), σ, τ) Q := by
  obtain ⟨hT, hN, h9, -⟩ := id hp.1
  have hLL := hT.2.2.2.1
  have hAA := hT.2.2.2.2.1
  have hSS := hT.2.2.2.2.2.1
  have hC := hp.2.1
  have hM := S70_X.m
  have i0 : vp_in 0 1 := pk_in 0 1 (by decide) (by decide) (by decide)
  refine S_L_law_606 (hu.B hi) ?_
  simp only [T_L_law_606, lls, fi_scr, sc_1, sc_2, scI hx (show 1 < 6 by decide), scI hx (show 2 < 6 by decide), scC hx (show 1 < 6 by decide), scC hx (show 2 < 6 by decide), fi_h3, fi_h4, fi_const, fi_iload, fi_aload, fi_istore, fi_astore, fi_iinc, fi_bin, fi_div, fi_un, fi_dup, fi_dup2, fi_pop, fi_if, fi_cmp, fi_getf, fi_putf, fi_putr, fi_ald, fi_ast, fi_alen, fi_iret, fi_zret, fi_vret, fi_cut, fi_no, fi_s0, fi_s1, fi_s2, fi_s3, fi_s4, fi_v0, fi_v1, fi_v2, fi_v3, fi_v4, fi_v5, fi_n0, fi_n1, fi_n2, fi_mm, fi_stat, fi_alds, fi_tsw, List.getElem?_cons_zero, List.getElem?_cons_succ, List.set_cons_zero, List.set_cons_succ, List.length_cons, List.length_nil, Option.toList_some, Option.toList_none, List.cons_append, List.nil_append, Value.category, true_and, k_0, k_1, k_2, k_3, k_4, false_implies, true_implies, reduceCtorEq]
  by_cases q : inI (fs_Xs g (6 * i + 1)) nS
  · obtain ⟨a, ha, e⟩ := inI_nat q (by omega)
    rw [e]
    refine ⟨by decide, (h_sceneProperty S70_X S70_O (a_sceneProperty S70_X hT ha _) hC).mono ?_⟩
    rintro r M' ⟨rfl, σ1, rfl, h1, s1⟩
    simp only [fi_const, fi_iload, fi_aload, fi_istore, fi_astore, fi_iinc, fi_bin, fi_div, fi_un, fi_dup, fi_dup2, fi_pop, fi_if, fi_cmp, fi_getf, fi_putf, fi_putr, fi_ald, fi_ast, fi_alen, fi_iret, fi_zret, fi_vret, fi_cut, fi_no, fi_s0, fi_s1, fi_s2, fi_s3, fi_s4, fi_v0, fi_v1, fi_v2, fi_v3, fi_v4, fi_v5, fi_n0, fi_n1, fi_n2, fi_mm, fi_stat, fi_alds, fi_tsw, List.getElem?_cons_zero, List.getElem?_cons_succ, List.set_cons_zero, List.set_cons_succ, List.length_cons, List.length_nil, Option.toList_some, Option.toList_none, List.cons_append, List.nil_append, Value.category, true_and, k_0, k_1, k_2, k_3, k_4, false_implies, true_implies, reduceCtorEq]
    refine ⟨by decide, ⟨_, hM.1⟩, (b_sceneProperty S70_X hT ha _ σ1 (hp.2.2.hi s1)).mono ?_⟩
    rintro r M' ⟨rfl, σ2, rfl, h2, s2, t2⟩
    simp only [fi_const, fi_iload, fi_aload, fi_istore, fi_astore, fi_iinc, fi_bin, fi_div, fi_un, fi_dup, fi_dup2, fi_pop, fi_if, fi_cmp, fi_getf, fi_putf, fi_putr, fi_ald, fi_ast, fi_alen, fi_iret, fi_zret, fi_vret, fi_cut, fi_no, fi_s0, fi_s1, fi_s2, fi_s3, fi_s4, fi_v0, fi_v1, fi_v2, fi_v3, fi_v4, fi_v5, fi_n0, fi_n1, fi_n2, fi_mm, fi_stat, fi_alds, fi_tsw, List.getElem?_cons_zero, List.getElem?_cons_succ, List.set_cons_zero, List.set_cons_succ, List.length_cons, List.length_nil, Option.toList_some, Option.toList_none, List.cons_append, List.nil_append, Value.category, true_and, k_0, k_1, k_2, k_3, k_4, false_implies, true_implies, reduceCtorEq]
    refine ⟨by decide, ⟨_, hM.1⟩, (c_thrown hM).mono ?_⟩
    rintro r M' ⟨rfl, rfl⟩
    rw [t2]
    simp only [fi_lald, fi_i2l, fi_lcmp, S70_O, i0, uL_eq, lgc, fi_const, fi_iload, fi_aload, fi_istore, fi_astore, fi_iinc, fi_bin, fi_div, fi_un, fi_dup, fi_dup2, fi_pop, fi_if, fi_cmp, fi_getf, fi_putf, fi_putr, fi_ald, fi_ast, fi_alen, fi_iret, fi_zret, fi_vret, fi_cut, fi_no, fi_s0, fi_s1, fi_s2, fi_s3, fi_s4, fi_v0, fi_v1, fi_v2, fi_v3, fi_v4, fi_v5, fi_n0, fi_n1, fi_n2, fi_mm, fi_stat, fi_alds, fi_tsw, List.getElem?_cons_zero, List.getElem?_cons_succ, List.set_cons_zero, List.set_cons_succ, List.length_cons, List.length_nil, Option.toList_some, Option.toList_none, List.cons_append, List.nil_append, Value.category, true_and, k_0, k_1, k_2, k_3, k_4, false_implies, true_implies, reduceCtorEq]
    exact ⟨⟨⟨K _ σ2 _ fr _ _ ⟨V, nL, nA, nS, kp, nb, hp.1, h1.low (fun a ha => s2 a (by omega)), h2⟩ hu.h, fun z => absurd trivial z⟩, fun z => absurd trivial z⟩, fun z => absurd trivial z⟩
  · refine ⟨by decide, (y_sceneProperty S70_X hl (by rw [hC.1.2.2]; exact inI_no q)).mono ?_⟩
    rintro r M' ⟨rfl, rfl⟩
    simp only [fi_const, fi_iload, fi_aload, fi_istore, fi_astore, fi_iinc, fi_bin, fi_div, fi_un, fi_dup, fi_dup2, fi_pop, fi_if, fi_cmp, fi_getf, fi_putf, fi_putr, fi_ald, fi_ast, fi_alen, fi_iret, fi_zret, fi_vret, fi_cut, fi_no, fi_s0, fi_s1, fi_s2, fi_s3, fi_s4, fi_v0, fi_v1, fi_v2, fi_v3, fi_v4, fi_v5, fi_n0, fi_n1, fi_n2, fi_mm, fi_stat, fi_alds, fi_tsw, List.getElem?_cons_zero, List.getElem?_cons_succ, List.set_cons_zero, List.set_cons_succ, List.length_cons, List.length_nil, Option.toList_some, Option.toList_none, List.cons_append, List.nil_append, Value.category, true_and, k_0, k_1, k_2, k_3, k_4, false_implies, true_implies, reduceCtorEq]
    refine ⟨by decide, ⟨_, hM.1⟩, (b_sceneProperty_x S70_X hT (q) _ σ hp.2.2).mono ?_⟩
    rintro r M' ⟨rfl, σ2, rfl, h2, s2, t2⟩
    simp only [fi_const, fi_iload, fi_aload, fi_istore, fi_astore, fi_iinc, fi_bin, fi_div, fi_un, fi_dup, fi_dup2, fi_pop, fi_if, fi_cmp, fi_getf, fi_putf, fi_putr, fi_ald, fi_ast, fi_alen, fi_iret, fi_zret, fi_vret, fi_cut, fi_no, fi_s0, fi_s1, fi_s2, fi_s3, fi_s4, fi_v0, fi_v1, fi_v2, fi_v3, fi_v4, fi_v5, fi_n0, fi_n1, fi_n2, fi_mm, fi_stat, fi_alds, fi_tsw, List.getElem?_cons_zero, List.getElem?_cons_succ, List.set_cons_zero, List.set_cons_succ, List.length_cons, List.length_nil, Option.toList_some, Option.toList_none, List.cons_append, List.nil_append, Value.category, true_and, k_0, k_1, k_2, k_3, k_4, false_implies, true_implies, reduceCtorEq]
    refine ⟨by decide, ⟨_, hM.1⟩, (c_thrown hM).mono ?_⟩
    rintro r M' ⟨rfl, rfl⟩
    rw [t2]
    simp only [fi_lald, fi_i2l, fi_lcmp, S70_O, fi_const, fi_iload, fi_aload, fi_istore, fi_astore, fi_iinc, fi_bin, fi_div, fi_un, fi_dup, fi_dup2, fi_pop, fi_if, fi_cmp, fi_getf, fi_putf, fi_putr, fi_ald, fi_ast, fi_alen, fi_iret, fi_zret, fi_vret, fi_cut, fi_no, fi_s0, fi_s1, fi_s2, fi_s3, fi_s4, fi_v0, fi_v1, fi_v2, fi_v3, fi_v4, fi_v5, fi_n0, fi_n1, fi_n2, fi_mm, fi_stat, fi_alds, fi_tsw, List.getElem?_cons_zero, List.getElem?_cons_succ, List.set_cons_zero, List.set_cons_succ, List.length_cons, List.length_nil, Option.toList_some, Option.toList_none, List.cons_append, List.nil_append, Value.category, true_and, k_0, k_1, k_2, k_3, k_4, false_implies, true_implies, reduceCtorEq]
    exact ⟨⟨fun z => absurd z (by decide), fun _ => K _ σ2 _ false _ _ ⟨V, nL, nA, nS, kp, nb, hp.1, hC.low (fun a ha => s2 a (by omega)), h2⟩ hu.h⟩, fun z => absurd trivial z⟩
theorem L_dayOf (hl : g.1.stackTraces = false) (hp : LPs σ V nL nA nS kp nb) (hi : i < N) (hu : bd u i) (hx : scO g i) (K : nxt g N d i Q) : fs_R g (m_L_law N) d u 674 (lls i v5 v6) [] ((S70, fr), σ, τ) Q := by
  obtain ⟨hT, hN, h9, -⟩ := id hp.1
  have hLL := hT.2.2.2.1
  have hAA := hT.2.2.2.2.1
  have hSS := hT.2.2.2.2.2.1
  have hC := hp.2.1
  have hM := S70_X.m
  have i0 : vp_in 0 1 := pk_in 0 1 (by decide) (by decide) (by decide)
  refine S_L_law_674 (hu.B hi) ?_
  simp only [T_L_law_674, lls, fi_scr, sc_1, sc_2, scI hx (show 1 < 6 by decide), scI hx (show 2 < 6 by decide), scC hx (show 1 < 6 by decide), scC hx (show 2 < 6 by decide), fi_h3, fi_h4, fi_const, fi_iload, fi_aload, fi_istore, fi_astore, fi_iinc, fi_bin, fi_div, fi_un, fi_dup, fi_dup2, fi_pop, fi_if, fi_cmp, fi_getf, fi_putf, fi_putr, fi_ald, fi_ast, fi_alen, fi_iret, fi_zret, fi_vret, fi_cut, fi_no, fi_s0, fi_s1, fi_s2, fi_s3, fi_s4, fi_v0, fi_v1, fi_v2, fi_v3, fi_v4, fi_v5, fi_n0, fi_n1, fi_n2, fi_mm, fi_stat, fi_alds, fi_tsw, List.getElem?_cons_zero, List.getElem?_cons_succ, List.set_cons_zero, List.set_cons_succ, List.length_cons, List.length_nil, Option.toList_some, Option.toList_none, List.cons_append, List.nil_append, Value.category, true_and, k_0, k_1, k_2, k_3, k_4, false_implies, true_implies, reduceCtorEq]
  by_cases q : inI (fs_Xs g (6 * i + 1)) nS
  · obtain ⟨a, ha, e⟩ := inI_nat q (by omega)
    rw [e]
    refine ⟨by decide, (h_dayOf S70_X S70_O (a_dayOf S70_X hT ha) hC).mono ?_⟩
    rintro r M' ⟨rfl, σ1, rfl, h1, s1⟩
    simp only [fi_const, fi_iload, fi_aload, fi_istore, fi_astore, fi_iinc, fi_bin, fi_div, fi_un, fi_dup, fi_dup2, fi_pop, fi_if, fi_cmp, fi_getf, fi_putf, fi_putr, fi_ald, fi_ast, fi_alen, fi_iret, fi_zret, fi_vret, fi_cut, fi_no, fi_s0, fi_s1, fi_s2, fi_s3, fi_s4, fi_v0, fi_v1, fi_v2, fi_v3, fi_v4, fi_v5, fi_n0, fi_n1, fi_n2, fi_mm, fi_stat, fi_alds, fi_tsw, List.getElem?_cons_zero, List.getElem?_cons_succ, List.set_cons_zero, List.set_cons_succ, List.length_cons, List.length_nil, Option.toList_some, Option.toList_none, List.cons_append, List.nil_append, Value.category, true_and, k_0, k_1, k_2, k_3, k_4, false_implies, true_implies, reduceCtorEq]
    refine ⟨by decide, ⟨_, hM.1⟩, (b_dayOf S70_X hT ha σ1 (hp.2.2.hi s1)).mono ?_⟩
    rintro r M' ⟨rfl, σ2, rfl, h2, s2, t2⟩
    simp only [fi_const, fi_iload, fi_aload, fi_istore, fi_astore, fi_iinc, fi_bin, fi_div, fi_un, fi_dup, fi_dup2, fi_pop, fi_if, fi_cmp, fi_getf, fi_putf, fi_putr, fi_ald, fi_ast, fi_alen, fi_iret, fi_zret, fi_vret, fi_cut, fi_no, fi_s0, fi_s1, fi_s2, fi_s3, fi_s4, fi_v0, fi_v1, fi_v2, fi_v3, fi_v4, fi_v5, fi_n0, fi_n1, fi_n2, fi_mm, fi_stat, fi_alds, fi_tsw, List.getElem?_cons_zero, List.getElem?_cons_succ, List.set_cons_zero, List.set_cons_succ, List.length_cons, List.length_nil, Option.toList_some, Option.toList_none, List.cons_append, List.nil_append, Value.category, true_and, k_0, k_1, k_2, k_3, k_4, false_implies, true_implies, reduceCtorEq]
    refine ⟨by decide, ⟨_, hM.1⟩, (c_thrown hM).mono ?_⟩
    rintro r M' ⟨rfl, rfl⟩
    rw [t2]
    simp only [fi_lald, fi_i2l, fi_lcmp, S70_O, i0, uL_eq, lgc, fi_const, fi_iload, fi_aload, fi_istore, fi_astore, fi_iinc, fi_bin, fi_div, fi_un, fi_dup, fi_dup2, fi_pop, fi_if, fi_cmp, fi_getf, fi_putf, fi_putr, fi_ald, fi_ast, fi_alen, fi_iret, fi_zret, fi_vret, fi_cut, fi_no, fi_s0, fi_s1, fi_s2, fi_s3, fi_s4, fi_v0, fi_v1, fi_v2, fi_v3, fi_v4, fi_v5, fi_n0, fi_n1, fi_n2, fi_mm, fi_stat, fi_alds, fi_tsw, List.getElem?_cons_zero, List.getElem?_cons_succ, List.set_cons_zero, List.set_cons_succ, List.length_cons, List.length_nil, Option.toList_some, Option.toList_none, List.cons_append, List.nil_append, Value.category, true_and, k_0, k_1, k_2, k_3, k_4, false_implies, true_implies, reduceCtorEq]
    exact ⟨⟨⟨K _ σ2 _ fr _ _ ⟨V, nL, nA, nS, kp, nb, hp.1, h1.low (fun a ha => s2 a (by omega)), h2⟩ hu.h, fun z => absurd trivial z⟩, fun z => absurd trivial z⟩, fun z => absurd trivial z⟩
  · refine ⟨by decide, (y_dayOf S70_X hl (by rw [hC.1.2.2]; exact inI_no q)).mono ?_⟩
    rintro r M' ⟨rfl, rfl⟩
    simp only [fi_const, fi_iload, fi_aload, fi_istore, fi_astore, fi_iinc, fi_bin, fi_div, fi_un, fi_dup, fi_dup2, fi_pop, fi_if, fi_cmp, fi_getf, fi_putf, fi_putr, fi_ald, fi_ast, fi_alen, fi_iret, fi_zret, fi_vret, fi_cut, fi_no, fi_s0, fi_s1, fi_s2, fi_s3, fi_s4, fi_v0, fi_v1, fi_v2, fi_v3, fi_v4, fi_v5, fi_n0, fi_n1, fi_n2, fi_mm, fi_stat, fi_alds, fi_tsw, List.getElem?_cons_zero, List.getElem?_cons_succ, List.set_cons_zero, List.set_cons_succ, List.length_cons, List.length_nil, Option.toList_some, Option.toList_none, List.cons_append, List.nil_append, Value.category, true_and, k_0, k_1, k_2, k_3, k_4, false_implies, true_implies, reduceCtorEq]
    refine ⟨by decide, ⟨_, hM.1⟩, (b_dayOf_x S70_X hT (q) σ hp.2.2).mono ?_⟩
    rintro r M' ⟨rfl, σ2, rfl, h2, s2, t2⟩
    simp only [fi_const, fi_iload, fi_aload, fi_istore, fi_astore, fi_iinc, fi_bin, fi_div, fi_un, fi_dup, fi_dup2, fi_pop, fi_if, fi_cmp, fi_getf, fi_putf, fi_putr, fi_ald, fi_ast, fi_alen, fi_iret, fi_zret, fi_vret, fi_cut, fi_no, fi_s0, fi_s1, fi_s2, fi_s3, fi_s4, fi_v0, fi_v1, fi_v2, fi_v3, fi_v4, fi_v5, fi_n0, fi_n1, fi_n2, fi_mm, fi_stat, fi_alds, fi_tsw, List.getElem?_cons_zero, List.getElem?_cons_succ, List.set_cons_zero, List.set_cons_succ, List.length_cons, List.length_nil, Option.toList_some, Option.toList_none, List.cons_append, List.nil_append, Value.category, true_and, k_0, k_1, k_2, k_3, k_4, false_implies, true_implies, reduceCtorEq]
    refine ⟨by decide, ⟨_, hM.1⟩, (c_thrown hM).mono ?_⟩
    rintro r M' ⟨rfl, rfl⟩
    rw [t2]
    simp only [fi_lald, fi_i2l, fi_lcmp, S70_O, fi_const, fi_iload, fi_aload, fi_istore, fi_astore, fi_iinc, fi_bin, fi_div, fi_un, fi_dup, fi_dup2, fi_pop, fi_if, fi_cmp, fi_getf, fi_putf, fi_putr, fi_ald, fi_ast, fi_alen, fi_iret, fi_zret, fi_vret, fi_cut, fi_no, fi_s0, fi_s1, fi_s2, fi_s3, fi_s4, fi_v0, fi_v1, fi_v2, fi_v3, fi_v4, fi_v5, fi_n0, fi_n1, fi_n2, fi_mm, fi_stat, fi_alds, fi_tsw, List.getElem?_cons_zero, List.getElem?_cons_succ, List.set_cons_zero, List.set_cons_succ, List.length_cons, List.length_nil, Option.toList_some, Option.toList_none, List.cons_append, List.nil_append, Value.category, true_and, k_0, k_1, k_2, k_3, k_4, false_implies, true_implies, reduceCtorEq]
    exact ⟨⟨fun z => absurd z (by decide), fun _ => K _ σ2 _ false _ _ ⟨V, nL, nA, nS, kp, nb, hp.1, hC.low (fun a ha => s2 a (by omega)), h2⟩ hu.h⟩, fun z => absurd trivial z⟩
theorem L_scenesOn (hl : g.1.stackTraces = false) (hp : LPs σ V nL nA nS kp nb) (hi : i < N) (hu : bd u i) (hx : scO g i) (K : nxt g N d i Q) : fs_R g (m_L_law N) d u 730 (lls i v5 v6) [] ((S70, fr), σ, τ) Q := by
  obtain ⟨hT, hN, h9, -⟩ := id hp.1
  have hLL := hT.2.2.2.1
  have hAA := hT.2.2.2.2.1
  have hSS := hT.2.2.2.2.2.1
  have hC := hp.2.1
  have hM := S70_X.m
  have i0 : vp_in 0 1 := pk_in 0 1 (by decide) (by decide) (by decide)
  refine S_L_law_730 (hu.B hi) ?_
  simp only [T_L_law_730, lls, fi_scr, sc_1, sc_2, scI hx (show 1 < 6 by decide), scI hx (show 2 < 6 by decide), scC hx (show 1 < 6 by decide), scC hx (show 2 < 6 by decide), fi_h3, fi_h4, fi_const, fi_iload, fi_aload, fi_istore, fi_astore, fi_iinc, fi_bin, fi_div, fi_un, fi_dup, fi_dup2, fi_pop, fi_if, fi_cmp, fi_getf, fi_putf, fi_putr, fi_ald, fi_ast, fi_alen, fi_iret, fi_zret, fi_vret, fi_cut, fi_no, fi_s0, fi_s1, fi_s2, fi_s3, fi_s4, fi_v0, fi_v1, fi_v2, fi_v3, fi_v4, fi_v5, fi_n0, fi_n1, fi_n2, fi_mm, fi_stat, fi_alds, fi_tsw, List.getElem?_cons_zero, List.getElem?_cons_succ, List.set_cons_zero, List.set_cons_succ, List.length_cons, List.length_nil, Option.toList_some, Option.toList_none, List.cons_append, List.nil_append, Value.category, true_and, k_0, k_1, k_2, k_3, k_4, false_implies, true_implies, reduceCtorEq]
  by_cases q : inI (fs_Xs g (6 * i + 1)) 12
  · obtain ⟨a, ha, e⟩ := inI_nat q (by omega)
    rw [e]
    refine ⟨by decide, (h_scenesOn S70_X S70_O (a_scenesOn S70_X hT ha) hC).mono ?_⟩
    rintro r M' ⟨rfl, σ1, rfl, h1, s1⟩
    simp only [fi_const, fi_iload, fi_aload, fi_istore, fi_astore, fi_iinc, fi_bin, fi_div, fi_un, fi_dup, fi_dup2, fi_pop, fi_if, fi_cmp, fi_getf, fi_putf, fi_putr, fi_ald, fi_ast, fi_alen, fi_iret, fi_zret, fi_vret, fi_cut, fi_no, fi_s0, fi_s1, fi_s2, fi_s3, fi_s4, fi_v0, fi_v1, fi_v2, fi_v3, fi_v4, fi_v5, fi_n0, fi_n1, fi_n2, fi_mm, fi_stat, fi_alds, fi_tsw, List.getElem?_cons_zero, List.getElem?_cons_succ, List.set_cons_zero, List.set_cons_succ, List.length_cons, List.length_nil, Option.toList_some, Option.toList_none, List.cons_append, List.nil_append, Value.category, true_and, k_0, k_1, k_2, k_3, k_4, false_implies, true_implies, reduceCtorEq]
    refine ⟨by decide, ⟨_, hM.1⟩, (b_scenesOn S70_X hT ha σ1 (hp.2.2.hi s1)).mono ?_⟩
    rintro r M' ⟨rfl, σ2, rfl, h2, s2, t2⟩
    simp only [fi_const, fi_iload, fi_aload, fi_istore, fi_astore, fi_iinc, fi_bin, fi_div, fi_un, fi_dup, fi_dup2, fi_pop, fi_if, fi_cmp, fi_getf, fi_putf, fi_putr, fi_ald, fi_ast, fi_alen, fi_iret, fi_zret, fi_vret, fi_cut, fi_no, fi_s0, fi_s1, fi_s2, fi_s3, fi_s4, fi_v0, fi_v1, fi_v2, fi_v3, fi_v4, fi_v5, fi_n0, fi_n1, fi_n2, fi_mm, fi_stat, fi_alds, fi_tsw, List.getElem?_cons_zero, List.getElem?_cons_succ, List.set_cons_zero, List.set_cons_succ, List.length_cons, List.length_nil, Option.toList_some, Option.toList_none, List.cons_append, List.nil_append, Value.category, true_and, k_0, k_1, k_2, k_3, k_4, false_implies, true_implies, reduceCtorEq]
    refine ⟨by decide, ⟨_, hM.1⟩, (c_thrown hM).mono ?_⟩
    rintro r M' ⟨rfl, rfl⟩
    rw [t2]
    simp only [fi_lald, fi_i2l, fi_lcmp, S70_O, i0, uL_eq, lgc, fi_const, fi_iload, fi_aload, fi_istore, fi_astore, fi_iinc, fi_bin, fi_div, fi_un, fi_dup, fi_dup2, fi_pop, fi_if, fi_cmp, fi_getf, fi_putf, fi_putr, fi_ald, fi_ast, fi_alen, fi_iret, fi_zret, fi_vret, fi_cut, fi_no, fi_s0, fi_s1, fi_s2, fi_s3, fi_s4, fi_v0, fi_v1, fi_v2, fi_v3, fi_v4, fi_v5, fi_n0, fi_n1, fi_n2, fi_mm, fi_stat, fi_alds, fi_tsw, List.getElem?_cons_zero, List.getElem?_cons_succ, List.set_cons_zero, List.set_cons_succ, List.length_cons, List.length_nil, Option.toList_some, Option.toList_none, List.cons_append, List.nil_append, Value.category, true_and, k_0, k_1, k_2, k_3, k_4, false_implies, true_implies, reduceCtorEq]
    exact ⟨⟨⟨K _ σ2 _ fr _ _ ⟨V, nL, nA, nS, kp, nb, hp.1, h1.low (fun a ha => s2 a (by omega)), h2⟩ hu.h, fun z => absurd trivial z⟩, fun z => absurd trivial z⟩, fun z => absurd trivial z⟩
  · refine ⟨by decide, (y_scenesOn S70_X hl (inI_no q)).mono ?_⟩
    rintro r M' ⟨rfl, rfl⟩
    simp only [fi_const, fi_iload, fi_aload, fi_istore, fi_astore, fi_iinc, fi_bin, fi_div, fi_un, fi_dup, fi_dup2, fi_pop, fi_if, fi_cmp, fi_getf, fi_putf, fi_putr, fi_ald, fi_ast, fi_alen, fi_iret, fi_zret, fi_vret, fi_cut, fi_no, fi_s0, fi_s1, fi_s2, fi_s3, fi_s4, fi_v0, fi_v1, fi_v2, fi_v3, fi_v4, fi_v5, fi_n0, fi_n1, fi_n2, fi_mm, fi_stat, fi_alds, fi_tsw, List.getElem?_cons_zero, List.getElem?_cons_succ, List.set_cons_zero, List.set_cons_succ, List.length_cons, List.length_nil, Option.toList_some, Option.toList_none, List.cons_append, List.nil_append, Value.category, true_and, k_0, k_1, k_2, k_3, k_4, false_implies, true_implies, reduceCtorEq]
    refine ⟨by decide, ⟨_, hM.1⟩, (b_scenesOn_x S70_X hT (q) σ hp.2.2).mono ?_⟩
    rintro r M' ⟨rfl, σ2, rfl, h2, s2, t2⟩
    simp only [fi_const, fi_iload, fi_aload, fi_istore, fi_astore, fi_iinc, fi_bin, fi_div, fi_un, fi_dup, fi_dup2, fi_pop, fi_if, fi_cmp, fi_getf, fi_putf, fi_putr, fi_ald, fi_ast, fi_alen, fi_iret, fi_zret, fi_vret, fi_cut, fi_no, fi_s0, fi_s1, fi_s2, fi_s3, fi_s4, fi_v0, fi_v1, fi_v2, fi_v3, fi_v4, fi_v5, fi_n0, fi_n1, fi_n2, fi_mm, fi_stat, fi_alds, fi_tsw, List.getElem?_cons_zero, List.getElem?_cons_succ, List.set_cons_zero, List.set_cons_succ, List.length_cons, List.length_nil, Option.toList_some, Option.toList_none, List.cons_append, List.nil_append, Value.category, true_and, k_0, k_1, k_2, k_3, k_4, false_implies, true_implies, reduceCtorEq]
    refine ⟨by decide, ⟨_, hM.1⟩, (c_thrown hM).mono ?_⟩
    rintro r M' ⟨rfl, rfl⟩
    rw [t2]
    simp only [fi_lald, fi_i2l, fi_lcmp, S70_O, fi_const, fi_iload, fi_aload, fi_istore, fi_astore, fi_iinc, fi_bin, fi_div, fi_un, fi_dup, fi_dup2, fi_pop, fi_if, fi_cmp, fi_getf, fi_putf, fi_putr, fi_ald, fi_ast, fi_alen, fi_iret, fi_zret, fi_vret, fi_cut, fi_no, fi_s0, fi_s1, fi_s2, fi_s3, fi_s4, fi_v0, fi_v1, fi_v2, fi_v3, fi_v4, fi_v5, fi_n0, fi_n1, fi_n2, fi_mm, fi_stat, fi_alds, fi_tsw, List.getElem?_cons_zero, List.getElem?_cons_succ, List.set_cons_zero, List.set_cons_succ, List.length_cons, List.length_nil, Option.toList_some, Option.toList_none, List.cons_append, List.nil_append, Value.category, true_and, k_0, k_1, k_2, k_3, k_4, false_implies, true_implies, reduceCtorEq]
    exact ⟨⟨fun z => absurd z (by decide), fun _ => K _ σ2 _ false _ _ ⟨V, nL, nA, nS, kp, nb, hp.1, hC.low (fun a ha => s2 a (by omega)), h2⟩ hu.h⟩, fun z => absurd trivial z⟩
theorem L_locationOn (hl : g.1.stackTraces = false) (hp : LPs σ V nL nA nS kp nb) (hi : i < N) (hu : bd u i) (hx : scO g i) (K : nxt g N d i Q) : fs_R g (m_L_law N) d u 786 (lls i v5 v6) [] ((S70, fr), σ, τ) Q := by
  obtain ⟨hT, hN, h9, -⟩ := id hp.1
  have hLL := hT.2.2.2.1
  have hAA := hT.2.2.2.2.1
  have hSS := hT.2.2.2.2.2.1
  have hC := hp.2.1
  have hM := S70_X.m
  have i0 : vp_in 0 1 := pk_in 0 1 (by decide) (by decide) (by decide)
  refine S_L_law_786 (hu.B hi) ?_
  simp only [T_L_law_786, lls, fi_scr, sc_1, sc_2, scI hx (show 1 < 6 by decide), scI hx (show 2 < 6 by decide), scC hx (show 1 < 6 by decide), scC hx (show 2 < 6 by decide), fi_h3, fi_h4, fi_const, fi_iload, fi_aload, fi_istore, fi_astore, fi_iinc, fi_bin, fi_div, fi_un, fi_dup, fi_dup2, fi_pop, fi_if, fi_cmp, fi_getf, fi_putf, fi_putr, fi_ald, fi_ast, fi_alen, fi_iret, fi_zret, fi_vret, fi_cut, fi_no, fi_s0, fi_s1, fi_s2, fi_s3, fi_s4, fi_v0, fi_v1, fi_v2, fi_v3, fi_v4, fi_v5, fi_n0, fi_n1, fi_n2, fi_mm, fi_stat, fi_alds, fi_tsw, List.getElem?_cons_zero, List.getElem?_cons_succ, List.set_cons_zero, List.set_cons_succ, List.length_cons, List.length_nil, Option.toList_some, Option.toList_none, List.cons_append, List.nil_append, Value.category, true_and, k_0, k_1, k_2, k_3, k_4, false_implies, true_implies, reduceCtorEq]
  by_cases q : inI (fs_Xs g (6 * i + 1)) 12
  · obtain ⟨a, ha, e⟩ := inI_nat q (by omega)
    rw [e]
    refine ⟨by decide, (h_locationOn S70_X S70_O (a_locationOn S70_X hT ha) hC).mono ?_⟩
    rintro r M' ⟨rfl, σ1, rfl, h1, s1⟩
    simp only [fi_const, fi_iload, fi_aload, fi_istore, fi_astore, fi_iinc, fi_bin, fi_div, fi_un, fi_dup, fi_dup2, fi_pop, fi_if, fi_cmp, fi_getf, fi_putf, fi_putr, fi_ald, fi_ast, fi_alen, fi_iret, fi_zret, fi_vret, fi_cut, fi_no, fi_s0, fi_s1, fi_s2, fi_s3, fi_s4, fi_v0, fi_v1, fi_v2, fi_v3, fi_v4, fi_v5, fi_n0, fi_n1, fi_n2, fi_mm, fi_stat, fi_alds, fi_tsw, List.getElem?_cons_zero, List.getElem?_cons_succ, List.set_cons_zero, List.set_cons_succ, List.length_cons, List.length_nil, Option.toList_some, Option.toList_none, List.cons_append, List.nil_append, Value.category, true_and, k_0, k_1, k_2, k_3, k_4, false_implies, true_implies, reduceCtorEq]
    refine ⟨by decide, ⟨_, hM.1⟩, (b_locationOn S70_X hT ha σ1 (hp.2.2.hi s1)).mono ?_⟩
    rintro r M' ⟨rfl, σ2, rfl, h2, s2, t2⟩
    simp only [fi_const, fi_iload, fi_aload, fi_istore, fi_astore, fi_iinc, fi_bin, fi_div, fi_un, fi_dup, fi_dup2, fi_pop, fi_if, fi_cmp, fi_getf, fi_putf, fi_putr, fi_ald, fi_ast, fi_alen, fi_iret, fi_zret, fi_vret, fi_cut, fi_no, fi_s0, fi_s1, fi_s2, fi_s3, fi_s4, fi_v0, fi_v1, fi_v2, fi_v3, fi_v4, fi_v5, fi_n0, fi_n1, fi_n2, fi_mm, fi_stat, fi_alds, fi_tsw, List.getElem?_cons_zero, List.getElem?_cons_succ, List.set_cons_zero, List.set_cons_succ, List.length_cons, List.length_nil, Option.toList_some, Option.toList_none, List.cons_append, List.nil_append, Value.category, true_and, k_0, k_1, k_2, k_3, k_4, false_implies, true_implies, reduceCtorEq]
    refine ⟨by decide, ⟨_, hM.1⟩, (c_thrown hM).mono ?_⟩
    rintro r M' ⟨rfl, rfl⟩
    rw [t2]
    simp only [fi_lald, fi_i2l, fi_lcmp, S70_O, i0, uL_eq, lgc, fi_const, fi_iload, fi_aload, fi_istore, fi_astore, fi_iinc, fi_bin, fi_div, fi_un, fi_dup, fi_dup2, fi_pop, fi_if, fi_cmp, fi_getf, fi_putf, fi_putr, fi_ald, fi_ast, fi_alen, fi_iret, fi_zret, fi_vret, fi_cut, fi_no, fi_s0, fi_s1, fi_s2, fi_s3, fi_s4, fi_v0, fi_v1, fi_v2, fi_v3, fi_v4, fi_v5, fi_n0, fi_n1, fi_n2, fi_mm, fi_stat, fi_alds, fi_tsw, List.getElem?_cons_zero, List.getElem?_cons_succ, List.set_cons_zero, List.set_cons_succ, List.length_cons, List.length_nil, Option.toList_some, Option.toList_none, List.cons_append, List.nil_append, Value.category, true_and, k_0, k_1, k_2, k_3, k_4, false_implies, true_implies, reduceCtorEq]
    exact ⟨⟨⟨K _ σ2 _ fr _ _ ⟨V, nL, nA, nS, kp, nb, hp.1, h1.low (fun a ha => s2 a (by omega)), h2⟩ hu.h, fun z => absurd trivial z⟩, fun z => absurd trivial z⟩, fun z => absurd trivial z⟩
  · refine ⟨by decide, (y_locationOn S70_X hl (inI_no q)).mono ?_⟩
    rintro r M' ⟨rfl, rfl⟩
    simp only [fi_const, fi_iload, fi_aload, fi_istore, fi_astore, fi_iinc, fi_bin, fi_div, fi_un, fi_dup, fi_dup2, fi_pop, fi_if, fi_cmp, fi_getf, fi_putf, fi_putr, fi_ald, fi_ast, fi_alen, fi_iret, fi_zret, fi_vret, fi_cut, fi_no, fi_s0, fi_s1, fi_s2, fi_s3, fi_s4, fi_v0, fi_v1, fi_v2, fi_v3, fi_v4, fi_v5, fi_n0, fi_n1, fi_n2, fi_mm, fi_stat, fi_alds, fi_tsw, List.getElem?_cons_zero, List.getElem?_cons_succ, List.set_cons_zero, List.set_cons_succ, List.length_cons, List.length_nil, Option.toList_some, Option.toList_none, List.cons_append, List.nil_append, Value.category, true_and, k_0, k_1, k_2, k_3, k_4, false_implies, true_implies, reduceCtorEq]
    refine ⟨by decide, ⟨_, hM.1⟩, (b_locationOn_x S70_X hT (q) σ hp.2.2).mono ?_⟩
    rintro r M' ⟨rfl, σ2, rfl, h2, s2, t2⟩
    simp only [fi_const, fi_iload, fi_aload, fi_istore, fi_astore, fi_iinc, fi_bin, fi_div, fi_un, fi_dup, fi_dup2, fi_pop, fi_if, fi_cmp, fi_getf, fi_putf, fi_putr, fi_ald, fi_ast, fi_alen, fi_iret, fi_zret, fi_vret, fi_cut, fi_no, fi_s0, fi_s1, fi_s2, fi_s3, fi_s4, fi_v0, fi_v1, fi_v2, fi_v3, fi_v4, fi_v5, fi_n0, fi_n1, fi_n2, fi_mm, fi_stat, fi_alds, fi_tsw, List.getElem?_cons_zero, List.getElem?_cons_succ, List.set_cons_zero, List.set_cons_succ, List.length_cons, List.length_nil, Option.toList_some, Option.toList_none, List.cons_append, List.nil_append, Value.category, true_and, k_0, k_1, k_2, k_3, k_4, false_implies, true_implies, reduceCtorEq]
    refine ⟨by decide, ⟨_, hM.1⟩, (c_thrown hM).mono ?_⟩
    rintro r M' ⟨rfl, rfl⟩
    rw [t2]
    simp only [fi_lald, fi_i2l, fi_lcmp, S70_O, fi_const, fi_iload, fi_aload, fi_istore, fi_astore, fi_iinc, fi_bin, fi_div, fi_un, fi_dup, fi_dup2, fi_pop, fi_if, fi_cmp, fi_getf, fi_putf, fi_putr, fi_ald, fi_ast, fi_alen, fi_iret, fi_zret, fi_vret, fi_cut, fi_no, fi_s0, fi_s1, fi_s2, fi_s3, fi_s4, fi_v0, fi_v1, fi_v2, fi_v3, fi_v4, fi_v5, fi_n0, fi_n1, fi_n2, fi_mm, fi_stat, fi_alds, fi_tsw, List.getElem?_cons_zero, List.getElem?_cons_succ, List.set_cons_zero, List.set_cons_succ, List.length_cons, List.length_nil, Option.toList_some, Option.toList_none, List.cons_append, List.nil_append, Value.category, true_and, k_0, k_1, k_2, k_3, k_4, false_implies, true_implies, reduceCtorEq]
    exact ⟨⟨fun z => absurd z (by decide), fun _ => K _ σ2 _ false _ _ ⟨V, nL, nA, nS, kp, nb, hp.1, hC.low (fun a ha => s2 a (by omega)), h2⟩ hu.h⟩, fun z => absurd trivial z⟩
theorem L_isNight (hl : g.1.stackTraces = false) (hp : LPs σ V nL nA nS kp nb) (hi : i < N) (hu : bd u i) (hx : scO g i) (K : nxt g N d i Q) : fs_R g (m_L_law N) d u 842 (lls i v5 v6) [] ((S70, fr), σ, τ) Q := by
  obtain ⟨hT, hN, h9, -⟩ := id hp.1
  have hLL := hT.2.2.2.1
  have hAA := hT.2.2.2.2.1
  have hSS := hT.2.2.2.2.2.1
  have hC := hp.2.1
  have hM := S70_X.m
  have i0 : vp_in 0 1 := pk_in 0 1 (by decide) (by decide) (by decide)
  refine S_L_law_842 (hu.B hi) ?_
  simp only [T_L_law_842, lls, fi_scr, sc_1, sc_2, scI hx (show 1 < 6 by decide), scI hx (show 2 < 6 by decide), scC hx (show 1 < 6 by decide), scC hx (show 2 < 6 by decide), fi_h3, fi_h4, fi_const, fi_iload, fi_aload, fi_istore, fi_astore, fi_iinc, fi_bin, fi_div, fi_un, fi_dup, fi_dup2, fi_pop, fi_if, fi_cmp, fi_getf, fi_putf, fi_putr, fi_ald, fi_ast, fi_alen, fi_iret, fi_zret, fi_vret, fi_cut, fi_no, fi_s0, fi_s1, fi_s2, fi_s3, fi_s4, fi_v0, fi_v1, fi_v2, fi_v3, fi_v4, fi_v5, fi_n0, fi_n1, fi_n2, fi_mm, fi_stat, fi_alds, fi_tsw, List.getElem?_cons_zero, List.getElem?_cons_succ, List.set_cons_zero, List.set_cons_succ, List.length_cons, List.length_nil, Option.toList_some, Option.toList_none, List.cons_append, List.nil_append, Value.category, true_and, k_0, k_1, k_2, k_3, k_4, false_implies, true_implies, reduceCtorEq]
  by_cases q : inI (fs_Xs g (6 * i + 1)) 12
  · obtain ⟨a, ha, e⟩ := inI_nat q (by omega)
    rw [e]
    refine ⟨by decide, (h_isNight S70_X S70_O (pnF01 hT.2.2.2.2.2.2.2.1) (a_isNight S70_X hT ha) hC).mono ?_⟩
    rintro r M' ⟨rfl, σ1, rfl, h1, s1⟩
    simp only [fi_const, fi_iload, fi_aload, fi_istore, fi_astore, fi_iinc, fi_bin, fi_div, fi_un, fi_dup, fi_dup2, fi_pop, fi_if, fi_cmp, fi_getf, fi_putf, fi_putr, fi_ald, fi_ast, fi_alen, fi_iret, fi_zret, fi_vret, fi_cut, fi_no, fi_s0, fi_s1, fi_s2, fi_s3, fi_s4, fi_v0, fi_v1, fi_v2, fi_v3, fi_v4, fi_v5, fi_n0, fi_n1, fi_n2, fi_mm, fi_stat, fi_alds, fi_tsw, List.getElem?_cons_zero, List.getElem?_cons_succ, List.set_cons_zero, List.set_cons_succ, List.length_cons, List.length_nil, Option.toList_some, Option.toList_none, List.cons_append, List.nil_append, Value.category, true_and, k_0, k_1, k_2, k_3, k_4, false_implies, true_implies, reduceCtorEq]
    refine ⟨by decide, ⟨_, hM.1⟩, (b_isNight S70_X hT ha σ1 (hp.2.2.hi s1)).mono ?_⟩
    rintro r M' ⟨rfl, σ2, rfl, h2, s2, t2⟩
    simp only [fi_const, fi_iload, fi_aload, fi_istore, fi_astore, fi_iinc, fi_bin, fi_div, fi_un, fi_dup, fi_dup2, fi_pop, fi_if, fi_cmp, fi_getf, fi_putf, fi_putr, fi_ald, fi_ast, fi_alen, fi_iret, fi_zret, fi_vret, fi_cut, fi_no, fi_s0, fi_s1, fi_s2, fi_s3, fi_s4, fi_v0, fi_v1, fi_v2, fi_v3, fi_v4, fi_v5, fi_n0, fi_n1, fi_n2, fi_mm, fi_stat, fi_alds, fi_tsw, List.getElem?_cons_zero, List.getElem?_cons_succ, List.set_cons_zero, List.set_cons_succ, List.length_cons, List.length_nil, Option.toList_some, Option.toList_none, List.cons_append, List.nil_append, Value.category, true_and, k_0, k_1, k_2, k_3, k_4, false_implies, true_implies, reduceCtorEq]
    refine ⟨by decide, ⟨_, hM.1⟩, (c_thrown hM).mono ?_⟩
    rintro r M' ⟨rfl, rfl⟩
    rw [t2]
    have hy01 := pnF01 (dy := v_dy V) (n := nS) (e := a) hT.2.2.2.2.2.2.2.1
    have KK := K (u.1 + 1, u.2 + 6) σ2 (fs_uL τ 69 0 (pnF (v_dy V) (v_ni V) nS a).toInt64) fr (.int 0) (.int (pnF (v_dy V) (v_ni V) nS a)) ⟨V, nL, nA, nS, kp, nb, hp.1, h1.low (fun a ha => s2 a (by omega)), h2⟩ hu.h
    have g0 : lg_cmp (0 : Int32).toInt64 0 = 0 := by decide
    have g1 : lg_cmp (1 : Int32).toInt64 1 = 0 := by decide
    simp only [fi_lald, fi_i2l, fi_lcmp, fi_lconst, S70_O, i0, uL_eq, fi_const, fi_iload, fi_aload, fi_istore, fi_astore, fi_iinc, fi_bin, fi_div, fi_un, fi_dup, fi_dup2, fi_pop, fi_if, fi_cmp, fi_getf, fi_putf, fi_putr, fi_ald, fi_ast, fi_alen, fi_iret, fi_zret, fi_vret, fi_cut, fi_no, fi_s0, fi_s1, fi_s2, fi_s3, fi_s4, fi_v0, fi_v1, fi_v2, fi_v3, fi_v4, fi_v5, fi_n0, fi_n1, fi_n2, fi_mm, fi_stat, fi_alds, fi_tsw, List.getElem?_cons_zero, List.getElem?_cons_succ, List.set_cons_zero, List.set_cons_succ, List.length_cons, List.length_nil, Option.toList_some, Option.toList_none, List.cons_append, List.nil_append, Value.category, true_and, k_0, k_1, k_2, k_3, k_4, false_implies, true_implies, reduceCtorEq]
    refine ⟨⟨⟨fun w => ⟨fun _ => KK, fun z => absurd (by rw [w]; exact g0) z⟩, fun w => ⟨fun _ => KK, fun z => absurd (by rcases hy01 with v | v; exact absurd v w; rw [v]; exact g1) z⟩⟩, fun z => absurd trivial z⟩, fun z => absurd trivial z⟩
  · refine ⟨by decide, (y_isNight S70_X hl (inI_no q)).mono ?_⟩
    rintro r M' ⟨rfl, rfl⟩
    simp only [fi_const, fi_iload, fi_aload, fi_istore, fi_astore, fi_iinc, fi_bin, fi_div, fi_un, fi_dup, fi_dup2, fi_pop, fi_if, fi_cmp, fi_getf, fi_putf, fi_putr, fi_ald, fi_ast, fi_alen, fi_iret, fi_zret, fi_vret, fi_cut, fi_no, fi_s0, fi_s1, fi_s2, fi_s3, fi_s4, fi_v0, fi_v1, fi_v2, fi_v3, fi_v4, fi_v5, fi_n0, fi_n1, fi_n2, fi_mm, fi_stat, fi_alds, fi_tsw, List.getElem?_cons_zero, List.getElem?_cons_succ, List.set_cons_zero, List.set_cons_succ, List.length_cons, List.length_nil, Option.toList_some, Option.toList_none, List.cons_append, List.nil_append, Value.category, true_and, k_0, k_1, k_2, k_3, k_4, false_implies, true_implies, reduceCtorEq]
    refine ⟨by decide, ⟨_, hM.1⟩, (b_isNight_x S70_X hT (q) σ hp.2.2).mono ?_⟩
    rintro r M' ⟨rfl, σ2, rfl, h2, s2, t2⟩
    simp only [fi_const, fi_iload, fi_aload, fi_istore, fi_astore, fi_iinc, fi_bin, fi_div, fi_un, fi_dup, fi_dup2, fi_pop, fi_if, fi_cmp, fi_getf, fi_putf, fi_putr, fi_ald, fi_ast, fi_alen, fi_iret, fi_zret, fi_vret, fi_cut, fi_no, fi_s0, fi_s1, fi_s2, fi_s3, fi_s4, fi_v0, fi_v1, fi_v2, fi_v3, fi_v4, fi_v5, fi_n0, fi_n1, fi_n2, fi_mm, fi_stat, fi_alds, fi_tsw, List.getElem?_cons_zero, List.getElem?_cons_succ, List.set_cons_zero, List.set_cons_succ, List.length_cons, List.length_nil, Option.toList_some, Option.toList_none, List.cons_append, List.nil_append, Value.category, true_and, k_0, k_1, k_2, k_3, k_4, false_implies, true_implies, reduceCtorEq]
    refine ⟨by decide, ⟨_, hM.1⟩, (c_thrown hM).mono ?_⟩
    rintro r M' ⟨rfl, rfl⟩
    rw [t2]
    simp only [fi_lald, fi_i2l, fi_lcmp, S70_O, fi_const, fi_iload, fi_aload, fi_istore, fi_astore, fi_iinc, fi_bin, fi_div, fi_un, fi_dup, fi_dup2, fi_pop, fi_if, fi_cmp, fi_getf, fi_putf, fi_putr, fi_ald, fi_ast, fi_alen, fi_iret, fi_zret, fi_vret, fi_cut, fi_no, fi_s0, fi_s1, fi_s2, fi_s3, fi_s4, fi_v0, fi_v1, fi_v2, fi_v3, fi_v4, fi_v5, fi_n0, fi_n1, fi_n2, fi_mm, fi_stat, fi_alds, fi_tsw, List.getElem?_cons_zero, List.getElem?_cons_succ, List.set_cons_zero, List.set_cons_succ, List.length_cons, List.length_nil, Option.toList_some, Option.toList_none, List.cons_append, List.nil_append, Value.category, true_and, k_0, k_1, k_2, k_3, k_4, false_implies, true_implies, reduceCtorEq]
    exact ⟨⟨fun z => absurd z (by decide), fun _ => K _ σ2 _ false _ _ ⟨V, nL, nA, nS, kp, nb, hp.1, hC.low (fun a ha => s2 a (by omega)), h2⟩ hu.h⟩, fun z => absurd trivial z⟩
theorem L_lengthOn (hl : g.1.stackTraces = false) (hp : LPs σ V nL nA nS kp nb) (hi : i < N) (hu : bd u i) (hx : scO g i) (K : nxt g N d i Q) : fs_R g (m_L_law N) d u 905 (lls i v5 v6) [] ((S70, fr), σ, τ) Q := by
  obtain ⟨hT, hN, h9, -⟩ := id hp.1
  have hLL := hT.2.2.2.1
  have hAA := hT.2.2.2.2.1
  have hSS := hT.2.2.2.2.2.1
  have hC := hp.2.1
  have hM := S70_X.m
  have i0 : vp_in 0 1 := pk_in 0 1 (by decide) (by decide) (by decide)
  refine S_L_law_905 (hu.B hi) ?_
  simp only [T_L_law_905, lls, fi_scr, sc_1, sc_2, scI hx (show 1 < 6 by decide), scI hx (show 2 < 6 by decide), scC hx (show 1 < 6 by decide), scC hx (show 2 < 6 by decide), fi_h3, fi_h4, fi_const, fi_iload, fi_aload, fi_istore, fi_astore, fi_iinc, fi_bin, fi_div, fi_un, fi_dup, fi_dup2, fi_pop, fi_if, fi_cmp, fi_getf, fi_putf, fi_putr, fi_ald, fi_ast, fi_alen, fi_iret, fi_zret, fi_vret, fi_cut, fi_no, fi_s0, fi_s1, fi_s2, fi_s3, fi_s4, fi_v0, fi_v1, fi_v2, fi_v3, fi_v4, fi_v5, fi_n0, fi_n1, fi_n2, fi_mm, fi_stat, fi_alds, fi_tsw, List.getElem?_cons_zero, List.getElem?_cons_succ, List.set_cons_zero, List.set_cons_succ, List.length_cons, List.length_nil, Option.toList_some, Option.toList_none, List.cons_append, List.nil_append, Value.category, true_and, k_0, k_1, k_2, k_3, k_4, false_implies, true_implies, reduceCtorEq]
  by_cases q : inI (fs_Xs g (6 * i + 1)) 12
  · obtain ⟨a, ha, e⟩ := inI_nat q (by omega)
    rw [e]
    refine ⟨by decide, (h_lengthOn S70_X S70_O (a_lengthOn S70_X hT ha) hC).mono ?_⟩
    rintro r M' ⟨rfl, σ1, rfl, h1, s1⟩
    simp only [fi_const, fi_iload, fi_aload, fi_istore, fi_astore, fi_iinc, fi_bin, fi_div, fi_un, fi_dup, fi_dup2, fi_pop, fi_if, fi_cmp, fi_getf, fi_putf, fi_putr, fi_ald, fi_ast, fi_alen, fi_iret, fi_zret, fi_vret, fi_cut, fi_no, fi_s0, fi_s1, fi_s2, fi_s3, fi_s4, fi_v0, fi_v1, fi_v2, fi_v3, fi_v4, fi_v5, fi_n0, fi_n1, fi_n2, fi_mm, fi_stat, fi_alds, fi_tsw, List.getElem?_cons_zero, List.getElem?_cons_succ, List.set_cons_zero, List.set_cons_succ, List.length_cons, List.length_nil, Option.toList_some, Option.toList_none, List.cons_append, List.nil_append, Value.category, true_and, k_0, k_1, k_2, k_3, k_4, false_implies, true_implies, reduceCtorEq]
    refine ⟨by decide, ⟨_, hM.1⟩, (b_lengthOn S70_X hT ha σ1 (hp.2.2.hi s1)).mono ?_⟩
    rintro r M' ⟨rfl, σ2, rfl, h2, s2, t2⟩
    simp only [fi_const, fi_iload, fi_aload, fi_istore, fi_astore, fi_iinc, fi_bin, fi_div, fi_un, fi_dup, fi_dup2, fi_pop, fi_if, fi_cmp, fi_getf, fi_putf, fi_putr, fi_ald, fi_ast, fi_alen, fi_iret, fi_zret, fi_vret, fi_cut, fi_no, fi_s0, fi_s1, fi_s2, fi_s3, fi_s4, fi_v0, fi_v1, fi_v2, fi_v3, fi_v4, fi_v5, fi_n0, fi_n1, fi_n2, fi_mm, fi_stat, fi_alds, fi_tsw, List.getElem?_cons_zero, List.getElem?_cons_succ, List.set_cons_zero, List.set_cons_succ, List.length_cons, List.length_nil, Option.toList_some, Option.toList_none, List.cons_append, List.nil_append, Value.category, true_and, k_0, k_1, k_2, k_3, k_4, false_implies, true_implies, reduceCtorEq]
    refine ⟨by decide, ⟨_, hM.1⟩, (c_thrown hM).mono ?_⟩
    rintro r M' ⟨rfl, rfl⟩
    rw [t2]
    simp only [fi_lald, fi_i2l, fi_lcmp, S70_O, i0, uL_eq, lgc, fi_const, fi_iload, fi_aload, fi_istore, fi_astore, fi_iinc, fi_bin, fi_div, fi_un, fi_dup, fi_dup2, fi_pop, fi_if, fi_cmp, fi_getf, fi_putf, fi_putr, fi_ald, fi_ast, fi_alen, fi_iret, fi_zret, fi_vret, fi_cut, fi_no, fi_s0, fi_s1, fi_s2, fi_s3, fi_s4, fi_v0, fi_v1, fi_v2, fi_v3, fi_v4, fi_v5, fi_n0, fi_n1, fi_n2, fi_mm, fi_stat, fi_alds, fi_tsw, List.getElem?_cons_zero, List.getElem?_cons_succ, List.set_cons_zero, List.set_cons_succ, List.length_cons, List.length_nil, Option.toList_some, Option.toList_none, List.cons_append, List.nil_append, Value.category, true_and, k_0, k_1, k_2, k_3, k_4, false_implies, true_implies, reduceCtorEq]
    exact ⟨⟨⟨K _ σ2 _ fr _ _ ⟨V, nL, nA, nS, kp, nb, hp.1, h1.low (fun a ha => s2 a (by omega)), h2⟩ hu.h, fun z => absurd trivial z⟩, fun z => absurd trivial z⟩, fun z => absurd trivial z⟩
  · refine ⟨by decide, (y_lengthOn S70_X hl (inI_no q)).mono ?_⟩
    rintro r M' ⟨rfl, rfl⟩
    simp only [fi_const, fi_iload, fi_aload, fi_istore, fi_astore, fi_iinc, fi_bin, fi_div, fi_un, fi_dup, fi_dup2, fi_pop, fi_if, fi_cmp, fi_getf, fi_putf, fi_putr, fi_ald, fi_ast, fi_alen, fi_iret, fi_zret, fi_vret, fi_cut, fi_no, fi_s0, fi_s1, fi_s2, fi_s3, fi_s4, fi_v0, fi_v1, fi_v2, fi_v3, fi_v4, fi_v5, fi_n0, fi_n1, fi_n2, fi_mm, fi_stat, fi_alds, fi_tsw, List.getElem?_cons_zero, List.getElem?_cons_succ, List.set_cons_zero, List.set_cons_succ, List.length_cons, List.length_nil, Option.toList_some, Option.toList_none, List.cons_append, List.nil_append, Value.category, true_and, k_0, k_1, k_2, k_3, k_4, false_implies, true_implies, reduceCtorEq]
    refine ⟨by decide, ⟨_, hM.1⟩, (b_lengthOn_x S70_X hT (q) σ hp.2.2).mono ?_⟩
    rintro r M' ⟨rfl, σ2, rfl, h2, s2, t2⟩
    simp only [fi_const, fi_iload, fi_aload, fi_istore, fi_astore, fi_iinc, fi_bin, fi_div, fi_un, fi_dup, fi_dup2, fi_pop, fi_if, fi_cmp, fi_getf, fi_putf, fi_putr, fi_ald, fi_ast, fi_alen, fi_iret, fi_zret, fi_vret, fi_cut, fi_no, fi_s0, fi_s1, fi_s2, fi_s3, fi_s4, fi_v0, fi_v1, fi_v2, fi_v3, fi_v4, fi_v5, fi_n0, fi_n1, fi_n2, fi_mm, fi_stat, fi_alds, fi_tsw, List.getElem?_cons_zero, List.getElem?_cons_succ, List.set_cons_zero, List.set_cons_succ, List.length_cons, List.length_nil, Option.toList_some, Option.toList_none, List.cons_append, List.nil_append, Value.category, true_and, k_0, k_1, k_2, k_3, k_4, false_implies, true_implies, reduceCtorEq]
    refine ⟨by decide, ⟨_, hM.1⟩, (c_thrown hM).mono ?_⟩
    rintro r M' ⟨rfl, rfl⟩
    rw [t2]
    simp only [fi_lald, fi_i2l, fi_lcmp, S70_O, fi_const, fi_iload, fi_aload, fi_istore, fi_astore, fi_iinc, fi_bin, fi_div, fi_un, fi_dup, fi_dup2, fi_pop, fi_if, fi_cmp, fi_getf, fi_putf, fi_putr, fi_ald, fi_ast, fi_alen, fi_iret, fi_zret, fi_vret, fi_cut, fi_no, fi_s0, fi_s1, fi_s2, fi_s3, fi_s4, fi_v0, fi_v1, fi_v2, fi_v3, fi_v4, fi_v5, fi_n0, fi_n1, fi_n2, fi_mm, fi_stat, fi_alds, fi_tsw, List.getElem?_cons_zero, List.getElem?_cons_succ, List.set_cons_zero, List.set_cons_succ, List.length_cons, List.length_nil, Option.toList_some, Option.toList_none, List.cons_append, List.nil_append, Value.category, true_and, k_0, k_1, k_2, k_3, k_4, false_implies, true_implies, reduceCtorEq]
    exact ⟨⟨fun z => absurd z (by decide), fun _ => K _ σ2 _ false _ _ ⟨V, nL, nA, nS, kp, nb, hp.1, hC.low (fun a ha => s2 a (by omega)), h2⟩ hu.h⟩, fun z => absurd trivial z⟩
theorem L_castOn (hl : g.1.stackTraces = false) (hp : LPs σ V nL nA nS kp nb) (hi : i < N) (hu : bd u i) (hx : scO g i) (K : nxt g N d i Q) : fs_R g (m_L_law N) d u 961 (lls i v5 v6) [] ((S70, fr), σ, τ) Q := by
  obtain ⟨hT, hN, h9, -⟩ := id hp.1
  have hLL := hT.2.2.2.1
  have hAA := hT.2.2.2.2.1
  have hSS := hT.2.2.2.2.2.1
  have hC := hp.2.1
  have hM := S70_X.m
  have i0 : vp_in 0 1 := pk_in 0 1 (by decide) (by decide) (by decide)
  refine S_L_law_961 (hu.B hi) ?_
  simp only [T_L_law_961, lls, fi_scr, sc_1, sc_2, scI hx (show 1 < 6 by decide), scI hx (show 2 < 6 by decide), scC hx (show 1 < 6 by decide), scC hx (show 2 < 6 by decide), fi_h3, fi_h4, fi_const, fi_iload, fi_aload, fi_istore, fi_astore, fi_iinc, fi_bin, fi_div, fi_un, fi_dup, fi_dup2, fi_pop, fi_if, fi_cmp, fi_getf, fi_putf, fi_putr, fi_ald, fi_ast, fi_alen, fi_iret, fi_zret, fi_vret, fi_cut, fi_no, fi_s0, fi_s1, fi_s2, fi_s3, fi_s4, fi_v0, fi_v1, fi_v2, fi_v3, fi_v4, fi_v5, fi_n0, fi_n1, fi_n2, fi_mm, fi_stat, fi_alds, fi_tsw, List.getElem?_cons_zero, List.getElem?_cons_succ, List.set_cons_zero, List.set_cons_succ, List.length_cons, List.length_nil, Option.toList_some, Option.toList_none, List.cons_append, List.nil_append, Value.category, true_and, k_0, k_1, k_2, k_3, k_4, false_implies, true_implies, reduceCtorEq]
  by_cases q : inI (fs_Xs g (6 * i + 1)) 12
  · obtain ⟨a, ha, e⟩ := inI_nat q (by omega)
    rw [e]
    refine ⟨by decide, (h_castOn S70_X S70_O (a_castOn S70_X hT ha) hC).mono ?_⟩
    rintro r M' ⟨rfl, σ1, rfl, h1, s1⟩
    simp only [fi_const, fi_iload, fi_aload, fi_istore, fi_astore, fi_iinc, fi_bin, fi_div, fi_un, fi_dup, fi_dup2, fi_pop, fi_if, fi_cmp, fi_getf, fi_putf, fi_putr, fi_ald, fi_ast, fi_alen, fi_iret, fi_zret, fi_vret, fi_cut, fi_no, fi_s0, fi_s1, fi_s2, fi_s3, fi_s4, fi_v0, fi_v1, fi_v2, fi_v3, fi_v4, fi_v5, fi_n0, fi_n1, fi_n2, fi_mm, fi_stat, fi_alds, fi_tsw, List.getElem?_cons_zero, List.getElem?_cons_succ, List.set_cons_zero, List.set_cons_succ, List.length_cons, List.length_nil, Option.toList_some, Option.toList_none, List.cons_append, List.nil_append, Value.category, true_and, k_0, k_1, k_2, k_3, k_4, false_implies, true_implies, reduceCtorEq]
    refine ⟨by decide, ⟨_, hM.1⟩, (b_castOn S70_X hT ha σ1 (hp.2.2.hi s1)).mono ?_⟩
    rintro r M' ⟨rfl, σ2, rfl, h2, s2, t2⟩
    simp only [fi_const, fi_iload, fi_aload, fi_istore, fi_astore, fi_iinc, fi_bin, fi_div, fi_un, fi_dup, fi_dup2, fi_pop, fi_if, fi_cmp, fi_getf, fi_putf, fi_putr, fi_ald, fi_ast, fi_alen, fi_iret, fi_zret, fi_vret, fi_cut, fi_no, fi_s0, fi_s1, fi_s2, fi_s3, fi_s4, fi_v0, fi_v1, fi_v2, fi_v3, fi_v4, fi_v5, fi_n0, fi_n1, fi_n2, fi_mm, fi_stat, fi_alds, fi_tsw, List.getElem?_cons_zero, List.getElem?_cons_succ, List.set_cons_zero, List.set_cons_succ, List.length_cons, List.length_nil, Option.toList_some, Option.toList_none, List.cons_append, List.nil_append, Value.category, true_and, k_0, k_1, k_2, k_3, k_4, false_implies, true_implies, reduceCtorEq]
    refine ⟨by decide, ⟨_, hM.1⟩, (c_thrown hM).mono ?_⟩
    rintro r M' ⟨rfl, rfl⟩
    rw [t2]
    simp only [fi_lald, fi_i2l, fi_lcmp, S70_O, i0, uL_eq, lgc, fi_const, fi_iload, fi_aload, fi_istore, fi_astore, fi_iinc, fi_bin, fi_div, fi_un, fi_dup, fi_dup2, fi_pop, fi_if, fi_cmp, fi_getf, fi_putf, fi_putr, fi_ald, fi_ast, fi_alen, fi_iret, fi_zret, fi_vret, fi_cut, fi_no, fi_s0, fi_s1, fi_s2, fi_s3, fi_s4, fi_v0, fi_v1, fi_v2, fi_v3, fi_v4, fi_v5, fi_n0, fi_n1, fi_n2, fi_mm, fi_stat, fi_alds, fi_tsw, List.getElem?_cons_zero, List.getElem?_cons_succ, List.set_cons_zero, List.set_cons_succ, List.length_cons, List.length_nil, Option.toList_some, Option.toList_none, List.cons_append, List.nil_append, Value.category, true_and, k_0, k_1, k_2, k_3, k_4, false_implies, true_implies, reduceCtorEq]
    exact ⟨⟨⟨K _ σ2 _ fr _ _ ⟨V, nL, nA, nS, kp, nb, hp.1, h1.low (fun a ha => s2 a (by omega)), h2⟩ hu.h, fun z => absurd trivial z⟩, fun z => absurd trivial z⟩, fun z => absurd trivial z⟩
  · refine ⟨by decide, (y_castOn S70_X hl (inI_no q)).mono ?_⟩
    rintro r M' ⟨rfl, rfl⟩
    simp only [fi_const, fi_iload, fi_aload, fi_istore, fi_astore, fi_iinc, fi_bin, fi_div, fi_un, fi_dup, fi_dup2, fi_pop, fi_if, fi_cmp, fi_getf, fi_putf, fi_putr, fi_ald, fi_ast, fi_alen, fi_iret, fi_zret, fi_vret, fi_cut, fi_no, fi_s0, fi_s1, fi_s2, fi_s3, fi_s4, fi_v0, fi_v1, fi_v2, fi_v3, fi_v4, fi_v5, fi_n0, fi_n1, fi_n2, fi_mm, fi_stat, fi_alds, fi_tsw, List.getElem?_cons_zero, List.getElem?_cons_succ, List.set_cons_zero, List.set_cons_succ, List.length_cons, List.length_nil, Option.toList_some, Option.toList_none, List.cons_append, List.nil_append, Value.category, true_and, k_0, k_1, k_2, k_3, k_4, false_implies, true_implies, reduceCtorEq]
    refine ⟨by decide, ⟨_, hM.1⟩, (b_castOn_x S70_X hT (q) σ hp.2.2).mono ?_⟩
    rintro r M' ⟨rfl, σ2, rfl, h2, s2, t2⟩
    simp only [fi_const, fi_iload, fi_aload, fi_istore, fi_astore, fi_iinc, fi_bin, fi_div, fi_un, fi_dup, fi_dup2, fi_pop, fi_if, fi_cmp, fi_getf, fi_putf, fi_putr, fi_ald, fi_ast, fi_alen, fi_iret, fi_zret, fi_vret, fi_cut, fi_no, fi_s0, fi_s1, fi_s2, fi_s3, fi_s4, fi_v0, fi_v1, fi_v2, fi_v3, fi_v4, fi_v5, fi_n0, fi_n1, fi_n2, fi_mm, fi_stat, fi_alds, fi_tsw, List.getElem?_cons_zero, List.getElem?_cons_succ, List.set_cons_zero, List.set_cons_succ, List.length_cons, List.length_nil, Option.toList_some, Option.toList_none, List.cons_append, List.nil_append, Value.category, true_and, k_0, k_1, k_2, k_3, k_4, false_implies, true_implies, reduceCtorEq]
    refine ⟨by decide, ⟨_, hM.1⟩, (c_thrown hM).mono ?_⟩
    rintro r M' ⟨rfl, rfl⟩
    rw [t2]
    simp only [fi_lald, fi_i2l, fi_lcmp, S70_O, fi_const, fi_iload, fi_aload, fi_istore, fi_astore, fi_iinc, fi_bin, fi_div, fi_un, fi_dup, fi_dup2, fi_pop, fi_if, fi_cmp, fi_getf, fi_putf, fi_putr, fi_ald, fi_ast, fi_alen, fi_iret, fi_zret, fi_vret, fi_cut, fi_no, fi_s0, fi_s1, fi_s2, fi_s3, fi_s4, fi_v0, fi_v1, fi_v2, fi_v3, fi_v4, fi_v5, fi_n0, fi_n1, fi_n2, fi_mm, fi_stat, fi_alds, fi_tsw, List.getElem?_cons_zero, List.getElem?_cons_succ, List.set_cons_zero, List.set_cons_succ, List.length_cons, List.length_nil, Option.toList_some, Option.toList_none, List.cons_append, List.nil_append, Value.category, true_and, k_0, k_1, k_2, k_3, k_4, false_implies, true_implies, reduceCtorEq]
    exact ⟨⟨fun z => absurd z (by decide), fun _ => K _ σ2 _ false _ _ ⟨V, nL, nA, nS, kp, nb, hp.1, hC.low (fun a ha => s2 a (by omega)), h2⟩ hu.h⟩, fun z => absurd trivial z⟩
theorem L_statusOf (hl : g.1.stackTraces = false) (hp : LPs σ V nL nA nS kp nb) (hi : i < N) (hu : bd u i) (hx : scO g i) (K : nxt g N d i Q) : fs_R g (m_L_law N) d u 1030 (lls i v5 v6) [] ((S70, fr), σ, τ) Q := by
  obtain ⟨hT, hN, h9, -⟩ := id hp.1
  have hLL := hT.2.2.2.1
  have hAA := hT.2.2.2.2.1
  have hSS := hT.2.2.2.2.2.1
  have hC := hp.2.1
  have hM := S70_X.m
  have i0 : vp_in 0 1 := pk_in 0 1 (by decide) (by decide) (by decide)
  refine S_L_law_1030 (hu.B hi) ?_
  simp only [T_L_law_1030, lls, fi_scr, sc_1, sc_2, scI hx (show 1 < 6 by decide), scI hx (show 2 < 6 by decide), scC hx (show 1 < 6 by decide), scC hx (show 2 < 6 by decide), fi_h3, fi_h4, fi_const, fi_iload, fi_aload, fi_istore, fi_astore, fi_iinc, fi_bin, fi_div, fi_un, fi_dup, fi_dup2, fi_pop, fi_if, fi_cmp, fi_getf, fi_putf, fi_putr, fi_ald, fi_ast, fi_alen, fi_iret, fi_zret, fi_vret, fi_cut, fi_no, fi_s0, fi_s1, fi_s2, fi_s3, fi_s4, fi_v0, fi_v1, fi_v2, fi_v3, fi_v4, fi_v5, fi_n0, fi_n1, fi_n2, fi_mm, fi_stat, fi_alds, fi_tsw, List.getElem?_cons_zero, List.getElem?_cons_succ, List.set_cons_zero, List.set_cons_succ, List.length_cons, List.length_nil, Option.toList_some, Option.toList_none, List.cons_append, List.nil_append, Value.category, true_and, k_0, k_1, k_2, k_3, k_4, false_implies, true_implies, reduceCtorEq]
  by_cases q : inI (fs_Xs g (6 * i + 1)) nA
  · by_cases q2 : inI (fs_Xs g (6 * i + 2)) 12
    · obtain ⟨a, ha, e⟩ := inI_nat q (by omega)
      obtain ⟨f, he, e2⟩ := inI_nat q2 (by decide)
      rw [e, e2]
      refine ⟨by decide, (h_statusOf S70_X S70_O (a_statusOf S70_X hT hN ha he) hC).mono ?_⟩
      rintro r M' ⟨rfl, σ1, rfl, h1, s1⟩
      simp only [fi_const, fi_iload, fi_aload, fi_istore, fi_astore, fi_iinc, fi_bin, fi_div, fi_un, fi_dup, fi_dup2, fi_pop, fi_if, fi_cmp, fi_getf, fi_putf, fi_putr, fi_ald, fi_ast, fi_alen, fi_iret, fi_zret, fi_vret, fi_cut, fi_no, fi_s0, fi_s1, fi_s2, fi_s3, fi_s4, fi_v0, fi_v1, fi_v2, fi_v3, fi_v4, fi_v5, fi_n0, fi_n1, fi_n2, fi_mm, fi_stat, fi_alds, fi_tsw, List.getElem?_cons_zero, List.getElem?_cons_succ, List.set_cons_zero, List.set_cons_succ, List.length_cons, List.length_nil, Option.toList_some, Option.toList_none, List.cons_append, List.nil_append, Value.category, true_and, k_0, k_1, k_2, k_3, k_4, false_implies, true_implies, reduceCtorEq]
      refine ⟨by decide, ⟨_, hM.1⟩, (b_statusOf S70_X hT ha he σ1 (hp.2.2.hi s1)).mono ?_⟩
      rintro r M' ⟨rfl, σ2, rfl, h2, s2, t2⟩
      simp only [fi_const, fi_iload, fi_aload, fi_istore, fi_astore, fi_iinc, fi_bin, fi_div, fi_un, fi_dup, fi_dup2, fi_pop, fi_if, fi_cmp, fi_getf, fi_putf, fi_putr, fi_ald, fi_ast, fi_alen, fi_iret, fi_zret, fi_vret, fi_cut, fi_no, fi_s0, fi_s1, fi_s2, fi_s3, fi_s4, fi_v0, fi_v1, fi_v2, fi_v3, fi_v4, fi_v5, fi_n0, fi_n1, fi_n2, fi_mm, fi_stat, fi_alds, fi_tsw, List.getElem?_cons_zero, List.getElem?_cons_succ, List.set_cons_zero, List.set_cons_succ, List.length_cons, List.length_nil, Option.toList_some, Option.toList_none, List.cons_append, List.nil_append, Value.category, true_and, k_0, k_1, k_2, k_3, k_4, false_implies, true_implies, reduceCtorEq]
      refine ⟨by decide, ⟨_, hM.1⟩, (c_thrown hM).mono ?_⟩
      rintro r M' ⟨rfl, rfl⟩
      rw [t2]
      simp only [fi_lald, fi_i2l, fi_lcmp, S70_O, i0, uL_eq, lgc, fi_const, fi_iload, fi_aload, fi_istore, fi_astore, fi_iinc, fi_bin, fi_div, fi_un, fi_dup, fi_dup2, fi_pop, fi_if, fi_cmp, fi_getf, fi_putf, fi_putr, fi_ald, fi_ast, fi_alen, fi_iret, fi_zret, fi_vret, fi_cut, fi_no, fi_s0, fi_s1, fi_s2, fi_s3, fi_s4, fi_v0, fi_v1, fi_v2, fi_v3, fi_v4, fi_v5, fi_n0, fi_n1, fi_n2, fi_mm, fi_stat, fi_alds, fi_tsw, List.getElem?_cons_zero, List.getElem?_cons_succ, List.set_cons_zero, List.set_cons_succ, List.length_cons, List.length_nil, Option.toList_some, Option.toList_none, List.cons_append, List.nil_append, Value.category, true_and, k_0, k_1, k_2, k_3, k_4, false_implies, true_implies, reduceCtorEq]
      exact ⟨⟨⟨K _ σ2 _ fr _ _ ⟨V, nL, nA, nS, kp, nb, hp.1, h1.low (fun a ha => s2 a (by omega)), h2⟩ hu.h, fun z => absurd trivial z⟩, fun z => absurd trivial z⟩, fun z => absurd trivial z⟩
    · refine ⟨by decide, (y_statusOf2 S70_X hl (by rw [hC.1.2.1]; exact inI_yes q) (inI_no q2)).mono ?_⟩
      rintro r M' ⟨rfl, rfl⟩
      simp only [fi_const, fi_iload, fi_aload, fi_istore, fi_astore, fi_iinc, fi_bin, fi_div, fi_un, fi_dup, fi_dup2, fi_pop, fi_if, fi_cmp, fi_getf, fi_putf, fi_putr, fi_ald, fi_ast, fi_alen, fi_iret, fi_zret, fi_vret, fi_cut, fi_no, fi_s0, fi_s1, fi_s2, fi_s3, fi_s4, fi_v0, fi_v1, fi_v2, fi_v3, fi_v4, fi_v5, fi_n0, fi_n1, fi_n2, fi_mm, fi_stat, fi_alds, fi_tsw, List.getElem?_cons_zero, List.getElem?_cons_succ, List.set_cons_zero, List.set_cons_succ, List.length_cons, List.length_nil, Option.toList_some, Option.toList_none, List.cons_append, List.nil_append, Value.category, true_and, k_0, k_1, k_2, k_3, k_4, false_implies, true_implies, reduceCtorEq]
      refine ⟨by decide, ⟨_, hM.1⟩, (b_statusOf_x S70_X hT (fun z => q2 z.2) σ hp.2.2).mono ?_⟩
      rintro r M' ⟨rfl, σ2, rfl, h2, s2, t2⟩
      simp only [fi_const, fi_iload, fi_aload, fi_istore, fi_astore, fi_iinc, fi_bin, fi_div, fi_un, fi_dup, fi_dup2, fi_pop, fi_if, fi_cmp, fi_getf, fi_putf, fi_putr, fi_ald, fi_ast, fi_alen, fi_iret, fi_zret, fi_vret, fi_cut, fi_no, fi_s0, fi_s1, fi_s2, fi_s3, fi_s4, fi_v0, fi_v1, fi_v2, fi_v3, fi_v4, fi_v5, fi_n0, fi_n1, fi_n2, fi_mm, fi_stat, fi_alds, fi_tsw, List.getElem?_cons_zero, List.getElem?_cons_succ, List.set_cons_zero, List.set_cons_succ, List.length_cons, List.length_nil, Option.toList_some, Option.toList_none, List.cons_append, List.nil_append, Value.category, true_and, k_0, k_1, k_2, k_3, k_4, false_implies, true_implies, reduceCtorEq]
      refine ⟨by decide, ⟨_, hM.1⟩, (c_thrown hM).mono ?_⟩
      rintro r M' ⟨rfl, rfl⟩
      rw [t2]
      simp only [fi_lald, fi_i2l, fi_lcmp, S70_O, fi_const, fi_iload, fi_aload, fi_istore, fi_astore, fi_iinc, fi_bin, fi_div, fi_un, fi_dup, fi_dup2, fi_pop, fi_if, fi_cmp, fi_getf, fi_putf, fi_putr, fi_ald, fi_ast, fi_alen, fi_iret, fi_zret, fi_vret, fi_cut, fi_no, fi_s0, fi_s1, fi_s2, fi_s3, fi_s4, fi_v0, fi_v1, fi_v2, fi_v3, fi_v4, fi_v5, fi_n0, fi_n1, fi_n2, fi_mm, fi_stat, fi_alds, fi_tsw, List.getElem?_cons_zero, List.getElem?_cons_succ, List.set_cons_zero, List.set_cons_succ, List.length_cons, List.length_nil, Option.toList_some, Option.toList_none, List.cons_append, List.nil_append, Value.category, true_and, k_0, k_1, k_2, k_3, k_4, false_implies, true_implies, reduceCtorEq]
      exact ⟨⟨fun z => absurd z (by decide), fun _ => K _ σ2 _ false _ _ ⟨V, nL, nA, nS, kp, nb, hp.1, hC.low (fun a ha => s2 a (by omega)), h2⟩ hu.h⟩, fun z => absurd trivial z⟩
  · refine ⟨by decide, (y_statusOf S70_X hl (by rw [hC.1.2.1]; exact inI_no q)).mono ?_⟩
    rintro r M' ⟨rfl, rfl⟩
    simp only [fi_const, fi_iload, fi_aload, fi_istore, fi_astore, fi_iinc, fi_bin, fi_div, fi_un, fi_dup, fi_dup2, fi_pop, fi_if, fi_cmp, fi_getf, fi_putf, fi_putr, fi_ald, fi_ast, fi_alen, fi_iret, fi_zret, fi_vret, fi_cut, fi_no, fi_s0, fi_s1, fi_s2, fi_s3, fi_s4, fi_v0, fi_v1, fi_v2, fi_v3, fi_v4, fi_v5, fi_n0, fi_n1, fi_n2, fi_mm, fi_stat, fi_alds, fi_tsw, List.getElem?_cons_zero, List.getElem?_cons_succ, List.set_cons_zero, List.set_cons_succ, List.length_cons, List.length_nil, Option.toList_some, Option.toList_none, List.cons_append, List.nil_append, Value.category, true_and, k_0, k_1, k_2, k_3, k_4, false_implies, true_implies, reduceCtorEq]
    refine ⟨by decide, ⟨_, hM.1⟩, (b_statusOf_x S70_X hT (fun z => q z.1) σ hp.2.2).mono ?_⟩
    rintro r M' ⟨rfl, σ2, rfl, h2, s2, t2⟩
    simp only [fi_const, fi_iload, fi_aload, fi_istore, fi_astore, fi_iinc, fi_bin, fi_div, fi_un, fi_dup, fi_dup2, fi_pop, fi_if, fi_cmp, fi_getf, fi_putf, fi_putr, fi_ald, fi_ast, fi_alen, fi_iret, fi_zret, fi_vret, fi_cut, fi_no, fi_s0, fi_s1, fi_s2, fi_s3, fi_s4, fi_v0, fi_v1, fi_v2, fi_v3, fi_v4, fi_v5, fi_n0, fi_n1, fi_n2, fi_mm, fi_stat, fi_alds, fi_tsw, List.getElem?_cons_zero, List.getElem?_cons_succ, List.set_cons_zero, List.set_cons_succ, List.length_cons, List.length_nil, Option.toList_some, Option.toList_none, List.cons_append, List.nil_append, Value.category, true_and, k_0, k_1, k_2, k_3, k_4, false_implies, true_implies, reduceCtorEq]
    refine ⟨by decide, ⟨_, hM.1⟩, (c_thrown hM).mono ?_⟩
    rintro r M' ⟨rfl, rfl⟩
    rw [t2]
    simp only [fi_lald, fi_i2l, fi_lcmp, S70_O, fi_const, fi_iload, fi_aload, fi_istore, fi_astore, fi_iinc, fi_bin, fi_div, fi_un, fi_dup, fi_dup2, fi_pop, fi_if, fi_cmp, fi_getf, fi_putf, fi_putr, fi_ald, fi_ast, fi_alen, fi_iret, fi_zret, fi_vret, fi_cut, fi_no, fi_s0, fi_s1, fi_s2, fi_s3, fi_s4, fi_v0, fi_v1, fi_v2, fi_v3, fi_v4, fi_v5, fi_n0, fi_n1, fi_n2, fi_mm, fi_stat, fi_alds, fi_tsw, List.getElem?_cons_zero, List.getElem?_cons_succ, List.set_cons_zero, List.set_cons_succ, List.length_cons, List.length_nil, Option.toList_some, Option.toList_none, List.cons_append, List.nil_append, Value.category, true_and, k_0, k_1, k_2, k_3, k_4, false_implies, true_implies, reduceCtorEq]
    exact ⟨⟨fun z => absurd z (by decide), fun _ => K _ σ2 _ false _ _ ⟨V, nL, nA, nS, kp, nb, hp.1, hC.low (fun a ha => s2 a (by omega)), h2⟩ hu.h⟩, fun z => absurd trivial z⟩
theorem L_firstDay (hl : g.1.stackTraces = false) (hp : LPs σ V nL nA nS kp nb) (hi : i < N) (hu : bd u i) (hx : scO g i) (K : nxt g N d i Q) : fs_R g (m_L_law N) d u 1098 (lls i v5 v6) [] ((S70, fr), σ, τ) Q := by
  obtain ⟨hT, hN, h9, -⟩ := id hp.1
  have hLL := hT.2.2.2.1
  have hAA := hT.2.2.2.2.1
  have hSS := hT.2.2.2.2.2.1
  have hC := hp.2.1
  have hM := S70_X.m
  have i0 : vp_in 0 1 := pk_in 0 1 (by decide) (by decide) (by decide)
  refine S_L_law_1098 (hu.B hi) ?_
  simp only [T_L_law_1098, lls, fi_scr, sc_1, sc_2, scI hx (show 1 < 6 by decide), scI hx (show 2 < 6 by decide), scC hx (show 1 < 6 by decide), scC hx (show 2 < 6 by decide), fi_h3, fi_h4, fi_const, fi_iload, fi_aload, fi_istore, fi_astore, fi_iinc, fi_bin, fi_div, fi_un, fi_dup, fi_dup2, fi_pop, fi_if, fi_cmp, fi_getf, fi_putf, fi_putr, fi_ald, fi_ast, fi_alen, fi_iret, fi_zret, fi_vret, fi_cut, fi_no, fi_s0, fi_s1, fi_s2, fi_s3, fi_s4, fi_v0, fi_v1, fi_v2, fi_v3, fi_v4, fi_v5, fi_n0, fi_n1, fi_n2, fi_mm, fi_stat, fi_alds, fi_tsw, List.getElem?_cons_zero, List.getElem?_cons_succ, List.set_cons_zero, List.set_cons_succ, List.length_cons, List.length_nil, Option.toList_some, Option.toList_none, List.cons_append, List.nil_append, Value.category, true_and, k_0, k_1, k_2, k_3, k_4, false_implies, true_implies, reduceCtorEq]
  by_cases q : inI (fs_Xs g (6 * i + 1)) nA
  · obtain ⟨a, ha, e⟩ := inI_nat q (by omega)
    rw [e]
    refine ⟨by decide, (h_firstDay S70_X S70_O (a_firstDay S70_X hT ha) hC).mono ?_⟩
    rintro r M' ⟨rfl, σ1, rfl, h1, s1⟩
    simp only [fi_const, fi_iload, fi_aload, fi_istore, fi_astore, fi_iinc, fi_bin, fi_div, fi_un, fi_dup, fi_dup2, fi_pop, fi_if, fi_cmp, fi_getf, fi_putf, fi_putr, fi_ald, fi_ast, fi_alen, fi_iret, fi_zret, fi_vret, fi_cut, fi_no, fi_s0, fi_s1, fi_s2, fi_s3, fi_s4, fi_v0, fi_v1, fi_v2, fi_v3, fi_v4, fi_v5, fi_n0, fi_n1, fi_n2, fi_mm, fi_stat, fi_alds, fi_tsw, List.getElem?_cons_zero, List.getElem?_cons_succ, List.set_cons_zero, List.set_cons_succ, List.length_cons, List.length_nil, Option.toList_some, Option.toList_none, List.cons_append, List.nil_append, Value.category, true_and, k_0, k_1, k_2, k_3, k_4, false_implies, true_implies, reduceCtorEq]
    refine ⟨by decide, ⟨_, hM.1⟩, (b_firstDay S70_X hT ha σ1 (hp.2.2.hi s1)).mono ?_⟩
    rintro r M' ⟨rfl, σ2, rfl, h2, s2, t2⟩
    simp only [fi_const, fi_iload, fi_aload, fi_istore, fi_astore, fi_iinc, fi_bin, fi_div, fi_un, fi_dup, fi_dup2, fi_pop, fi_if, fi_cmp, fi_getf, fi_putf, fi_putr, fi_ald, fi_ast, fi_alen, fi_iret, fi_zret, fi_vret, fi_cut, fi_no, fi_s0, fi_s1, fi_s2, fi_s3, fi_s4, fi_v0, fi_v1, fi_v2, fi_v3, fi_v4, fi_v5, fi_n0, fi_n1, fi_n2, fi_mm, fi_stat, fi_alds, fi_tsw, List.getElem?_cons_zero, List.getElem?_cons_succ, List.set_cons_zero, List.set_cons_succ, List.length_cons, List.length_nil, Option.toList_some, Option.toList_none, List.cons_append, List.nil_append, Value.category, true_and, k_0, k_1, k_2, k_3, k_4, false_implies, true_implies, reduceCtorEq]
    refine ⟨by decide, ⟨_, hM.1⟩, (c_thrown hM).mono ?_⟩
    rintro r M' ⟨rfl, rfl⟩
    rw [t2]
    simp only [fi_lald, fi_i2l, fi_lcmp, S70_O, i0, uL_eq, lgc, fi_const, fi_iload, fi_aload, fi_istore, fi_astore, fi_iinc, fi_bin, fi_div, fi_un, fi_dup, fi_dup2, fi_pop, fi_if, fi_cmp, fi_getf, fi_putf, fi_putr, fi_ald, fi_ast, fi_alen, fi_iret, fi_zret, fi_vret, fi_cut, fi_no, fi_s0, fi_s1, fi_s2, fi_s3, fi_s4, fi_v0, fi_v1, fi_v2, fi_v3, fi_v4, fi_v5, fi_n0, fi_n1, fi_n2, fi_mm, fi_stat, fi_alds, fi_tsw, List.getElem?_cons_zero, List.getElem?_cons_succ, List.set_cons_zero, List.set_cons_succ, List.length_cons, List.length_nil, Option.toList_some, Option.toList_none, List.cons_append, List.nil_append, Value.category, true_and, k_0, k_1, k_2, k_3, k_4, false_implies, true_implies, reduceCtorEq]
    exact ⟨⟨⟨K _ σ2 _ fr _ _ ⟨V, nL, nA, nS, kp, nb, hp.1, h1.low (fun a ha => s2 a (by omega)), h2⟩ hu.h, fun z => absurd trivial z⟩, fun z => absurd trivial z⟩, fun z => absurd trivial z⟩
  · refine ⟨by decide, (y_firstDay S70_X hl (by rw [hC.1.2.1]; exact inI_no q)).mono ?_⟩
    rintro r M' ⟨rfl, rfl⟩
    simp only [fi_const, fi_iload, fi_aload, fi_istore, fi_astore, fi_iinc, fi_bin, fi_div, fi_un, fi_dup, fi_dup2, fi_pop, fi_if, fi_cmp, fi_getf, fi_putf, fi_putr, fi_ald, fi_ast, fi_alen, fi_iret, fi_zret, fi_vret, fi_cut, fi_no, fi_s0, fi_s1, fi_s2, fi_s3, fi_s4, fi_v0, fi_v1, fi_v2, fi_v3, fi_v4, fi_v5, fi_n0, fi_n1, fi_n2, fi_mm, fi_stat, fi_alds, fi_tsw, List.getElem?_cons_zero, List.getElem?_cons_succ, List.set_cons_zero, List.set_cons_succ, List.length_cons, List.length_nil, Option.toList_some, Option.toList_none, List.cons_append, List.nil_append, Value.category, true_and, k_0, k_1, k_2, k_3, k_4, false_implies, true_implies, reduceCtorEq]
    refine ⟨by decide, ⟨_, hM.1⟩, (b_firstDay_x S70_X hT (q) σ hp.2.2).mono ?_⟩
    rintro r M' ⟨rfl, σ2, rfl, h2, s2, t2⟩
    simp only [fi_const, fi_iload, fi_aload, fi_istore, fi_astore, fi_iinc, fi_bin, fi_div, fi_un, fi_dup, fi_dup2, fi_pop, fi_if, fi_cmp, fi_getf, fi_putf, fi_putr, fi_ald, fi_ast, fi_alen, fi_iret, fi_zret, fi_vret, fi_cut, fi_no, fi_s0, fi_s1, fi_s2, fi_s3, fi_s4, fi_v0, fi_v1, fi_v2, fi_v3, fi_v4, fi_v5, fi_n0, fi_n1, fi_n2, fi_mm, fi_stat, fi_alds, fi_tsw, List.getElem?_cons_zero, List.getElem?_cons_succ, List.set_cons_zero, List.set_cons_succ, List.length_cons, List.length_nil, Option.toList_some, Option.toList_none, List.cons_append, List.nil_append, Value.category, true_and, k_0, k_1, k_2, k_3, k_4, false_implies, true_implies, reduceCtorEq]
    refine ⟨by decide, ⟨_, hM.1⟩, (c_thrown hM).mono ?_⟩
    rintro r M' ⟨rfl, rfl⟩
    rw [t2]
    simp only [fi_lald, fi_i2l, fi_lcmp, S70_O, fi_const, fi_iload, fi_aload, fi_istore, fi_astore, fi_iinc, fi_bin, fi_div, fi_un, fi_dup, fi_dup2, fi_pop, fi_if, fi_cmp, fi_getf, fi_putf, fi_putr, fi_ald, fi_ast, fi_alen, fi_iret, fi_zret, fi_vret, fi_cut, fi_no, fi_s0, fi_s1, fi_s2, fi_s3, fi_s4, fi_v0, fi_v1, fi_v2, fi_v3, fi_v4, fi_v5, fi_n0, fi_n1, fi_n2, fi_mm, fi_stat, fi_alds, fi_tsw, List.getElem?_cons_zero, List.getElem?_cons_succ, List.set_cons_zero, List.set_cons_succ, List.length_cons, List.length_nil, Option.toList_some, Option.toList_none, List.cons_append, List.nil_append, Value.category, true_and, k_0, k_1, k_2, k_3, k_4, false_implies, true_implies, reduceCtorEq]
    exact ⟨⟨fun z => absurd z (by decide), fun _ => K _ σ2 _ false _ _ ⟨V, nL, nA, nS, kp, nb, hp.1, hC.low (fun a ha => s2 a (by omega)), h2⟩ hu.h⟩, fun z => absurd trivial z⟩
theorem L_lastDay (hl : g.1.stackTraces = false) (hp : LPs σ V nL nA nS kp nb) (hi : i < N) (hu : bd u i) (hx : scO g i) (K : nxt g N d i Q) : fs_R g (m_L_law N) d u 1154 (lls i v5 v6) [] ((S70, fr), σ, τ) Q := by
  obtain ⟨hT, hN, h9, -⟩ := id hp.1
  have hLL := hT.2.2.2.1
  have hAA := hT.2.2.2.2.1
  have hSS := hT.2.2.2.2.2.1
  have hC := hp.2.1
  have hM := S70_X.m
  have i0 : vp_in 0 1 := pk_in 0 1 (by decide) (by decide) (by decide)
  refine S_L_law_1154 (hu.B hi) ?_
  simp only [T_L_law_1154, lls, fi_scr, sc_1, sc_2, scI hx (show 1 < 6 by decide), scI hx (show 2 < 6 by decide), scC hx (show 1 < 6 by decide), scC hx (show 2 < 6 by decide), fi_h3, fi_h4, fi_const, fi_iload, fi_aload, fi_istore, fi_astore, fi_iinc, fi_bin, fi_div, fi_un, fi_dup, fi_dup2, fi_pop, fi_if, fi_cmp, fi_getf, fi_putf, fi_putr, fi_ald, fi_ast, fi_alen, fi_iret, fi_zret, fi_vret, fi_cut, fi_no, fi_s0, fi_s1, fi_s2, fi_s3, fi_s4, fi_v0, fi_v1, fi_v2, fi_v3, fi_v4, fi_v5, fi_n0, fi_n1, fi_n2, fi_mm, fi_stat, fi_alds, fi_tsw, List.getElem?_cons_zero, List.getElem?_cons_succ, List.set_cons_zero, List.set_cons_succ, List.length_cons, List.length_nil, Option.toList_some, Option.toList_none, List.cons_append, List.nil_append, Value.category, true_and, k_0, k_1, k_2, k_3, k_4, false_implies, true_implies, reduceCtorEq]
  by_cases q : inI (fs_Xs g (6 * i + 1)) nA
  · obtain ⟨a, ha, e⟩ := inI_nat q (by omega)
    rw [e]
    refine ⟨by decide, (h_lastDay S70_X S70_O (a_lastDay S70_X hT ha) hC).mono ?_⟩
    rintro r M' ⟨rfl, σ1, rfl, h1, s1⟩
    simp only [fi_const, fi_iload, fi_aload, fi_istore, fi_astore, fi_iinc, fi_bin, fi_div, fi_un, fi_dup, fi_dup2, fi_pop, fi_if, fi_cmp, fi_getf, fi_putf, fi_putr, fi_ald, fi_ast, fi_alen, fi_iret, fi_zret, fi_vret, fi_cut, fi_no, fi_s0, fi_s1, fi_s2, fi_s3, fi_s4, fi_v0, fi_v1, fi_v2, fi_v3, fi_v4, fi_v5, fi_n0, fi_n1, fi_n2, fi_mm, fi_stat, fi_alds, fi_tsw, List.getElem?_cons_zero, List.getElem?_cons_succ, List.set_cons_zero, List.set_cons_succ, List.length_cons, List.length_nil, Option.toList_some, Option.toList_none, List.cons_append, List.nil_append, Value.category, true_and, k_0, k_1, k_2, k_3, k_4, false_implies, true_implies, reduceCtorEq]
    refine ⟨by decide, ⟨_, hM.1⟩, (b_lastDay S70_X hT ha σ1 (hp.2.2.hi s1)).mono ?_⟩
    rintro r M' ⟨rfl, σ2, rfl, h2, s2, t2⟩
    simp only [fi_const, fi_iload, fi_aload, fi_istore, fi_astore, fi_iinc, fi_bin, fi_div, fi_un, fi_dup, fi_dup2, fi_pop, fi_if, fi_cmp, fi_getf, fi_putf, fi_putr, fi_ald, fi_ast, fi_alen, fi_iret, fi_zret, fi_vret, fi_cut, fi_no, fi_s0, fi_s1, fi_s2, fi_s3, fi_s4, fi_v0, fi_v1, fi_v2, fi_v3, fi_v4, fi_v5, fi_n0, fi_n1, fi_n2, fi_mm, fi_stat, fi_alds, fi_tsw, List.getElem?_cons_zero, List.getElem?_cons_succ, List.set_cons_zero, List.set_cons_succ, List.length_cons, List.length_nil, Option.toList_some, Option.toList_none, List.cons_append, List.nil_append, Value.category, true_and, k_0, k_1, k_2, k_3, k_4, false_implies, true_implies, reduceCtorEq]
    refine ⟨by decide, ⟨_, hM.1⟩, (c_thrown hM).mono ?_⟩
    rintro r M' ⟨rfl, rfl⟩
    rw [t2]
    simp only [fi_lald, fi_i2l, fi_lcmp, S70_O, i0, uL_eq, lgc, fi_const, fi_iload, fi_aload, fi_istore, fi_astore, fi_iinc, fi_bin, fi_div, fi_un, fi_dup, fi_dup2, fi_pop, fi_if, fi_cmp, fi_getf, fi_putf, fi_putr, fi_ald, fi_ast, fi_alen, fi_iret, fi_zret, fi_vret, fi_cut, fi_no, fi_s0, fi_s1, fi_s2, fi_s3, fi_s4, fi_v0, fi_v1, fi_v2, fi_v3, fi_v4, fi_v5, fi_n0, fi_n1, fi_n2, fi_mm, fi_stat, fi_alds, fi_tsw, List.getElem?_cons_zero, List.getElem?_cons_succ, List.set_cons_zero, List.set_cons_succ, List.length_cons, List.length_nil, Option.toList_some, Option.toList_none, List.cons_append, List.nil_append, Value.category, true_and, k_0, k_1, k_2, k_3, k_4, false_implies, true_implies, reduceCtorEq]
    exact ⟨⟨⟨K _ σ2 _ fr _ _ ⟨V, nL, nA, nS, kp, nb, hp.1, h1.low (fun a ha => s2 a (by omega)), h2⟩ hu.h, fun z => absurd trivial z⟩, fun z => absurd trivial z⟩, fun z => absurd trivial z⟩
  · refine ⟨by decide, (y_lastDay S70_X hl (by rw [hC.1.2.1]; exact inI_no q)).mono ?_⟩
    rintro r M' ⟨rfl, rfl⟩
    simp only [fi_const, fi_iload, fi_aload, fi_istore, fi_astore, fi_iinc, fi_bin, fi_div, fi_un, fi_dup, fi_dup2, fi_pop, fi_if, fi_cmp, fi_getf, fi_putf, fi_putr, fi_ald, fi_ast, fi_alen, fi_iret, fi_zret, fi_vret, fi_cut, fi_no, fi_s0, fi_s1, fi_s2, fi_s3, fi_s4, fi_v0, fi_v1, fi_v2, fi_v3, fi_v4, fi_v5, fi_n0, fi_n1, fi_n2, fi_mm, fi_stat, fi_alds, fi_tsw, List.getElem?_cons_zero, List.getElem?_cons_succ, List.set_cons_zero, List.set_cons_succ, List.length_cons, List.length_nil, Option.toList_some, Option.toList_none, List.cons_append, List.nil_append, Value.category, true_and, k_0, k_1, k_2, k_3, k_4, false_implies, true_implies, reduceCtorEq]
    refine ⟨by decide, ⟨_, hM.1⟩, (b_lastDay_x S70_X hT (q) σ hp.2.2).mono ?_⟩
    rintro r M' ⟨rfl, σ2, rfl, h2, s2, t2⟩
    simp only [fi_const, fi_iload, fi_aload, fi_istore, fi_astore, fi_iinc, fi_bin, fi_div, fi_un, fi_dup, fi_dup2, fi_pop, fi_if, fi_cmp, fi_getf, fi_putf, fi_putr, fi_ald, fi_ast, fi_alen, fi_iret, fi_zret, fi_vret, fi_cut, fi_no, fi_s0, fi_s1, fi_s2, fi_s3, fi_s4, fi_v0, fi_v1, fi_v2, fi_v3, fi_v4, fi_v5, fi_n0, fi_n1, fi_n2, fi_mm, fi_stat, fi_alds, fi_tsw, List.getElem?_cons_zero, List.getElem?_cons_succ, List.set_cons_zero, List.set_cons_succ, List.length_cons, List.length_nil, Option.toList_some, Option.toList_none, List.cons_append, List.nil_append, Value.category, true_and, k_0, k_1, k_2, k_3, k_4, false_implies, true_implies, reduceCtorEq]
    refine ⟨by decide, ⟨_, hM.1⟩, (c_thrown hM).mono ?_⟩
    rintro r M' ⟨rfl, rfl⟩
    rw [t2]
    simp only [fi_lald, fi_i2l, fi_lcmp, S70_O, fi_const, fi_iload, fi_aload, fi_istore, fi_astore, fi_iinc, fi_bin, fi_div, fi_un, fi_dup, fi_dup2, fi_pop, fi_if, fi_cmp, fi_getf, fi_putf, fi_putr, fi_ald, fi_ast, fi_alen, fi_iret, fi_zret, fi_vret, fi_cut, fi_no, fi_s0, fi_s1, fi_s2, fi_s3, fi_s4, fi_v0, fi_v1, fi_v2, fi_v3, fi_v4, fi_v5, fi_n0, fi_n1, fi_n2, fi_mm, fi_stat, fi_alds, fi_tsw, List.getElem?_cons_zero, List.getElem?_cons_succ, List.set_cons_zero, List.set_cons_succ, List.length_cons, List.length_nil, Option.toList_some, Option.toList_none, List.cons_append, List.nil_append, Value.category, true_and, k_0, k_1, k_2, k_3, k_4, false_implies, true_implies, reduceCtorEq]
    exact ⟨⟨fun z => absurd z (by decide), fun _ => K _ σ2 _ false _ _ ⟨V, nL, nA, nS, kp, nb, hp.1, hC.low (fun a ha => s2 a (by omega)), h2⟩ hu.h⟩, fun z => absurd trivial z⟩
theorem L_daysWith (hl : g.1.stackTraces = false) (hp : LPs σ V nL nA nS kp nb) (hi : i < N) (hu : bd u i) (hx : scO g i) (K : nxt g N d i Q) : fs_R g (m_L_law N) d u 1210 (lls i v5 v6) [] ((S70, fr), σ, τ) Q := by
  obtain ⟨hT, hN, h9, -⟩ := id hp.1
  have hLL := hT.2.2.2.1
  have hAA := hT.2.2.2.2.1
  have hSS := hT.2.2.2.2.2.1
  have hC := hp.2.1
  have hM := S70_X.m
  have i0 : vp_in 0 1 := pk_in 0 1 (by decide) (by decide) (by decide)
  refine S_L_law_1210 (hu.B hi) ?_
  simp only [T_L_law_1210, lls, fi_scr, sc_1, sc_2, scI hx (show 1 < 6 by decide), scI hx (show 2 < 6 by decide), scC hx (show 1 < 6 by decide), scC hx (show 2 < 6 by decide), fi_h3, fi_h4, fi_const, fi_iload, fi_aload, fi_istore, fi_astore, fi_iinc, fi_bin, fi_div, fi_un, fi_dup, fi_dup2, fi_pop, fi_if, fi_cmp, fi_getf, fi_putf, fi_putr, fi_ald, fi_ast, fi_alen, fi_iret, fi_zret, fi_vret, fi_cut, fi_no, fi_s0, fi_s1, fi_s2, fi_s3, fi_s4, fi_v0, fi_v1, fi_v2, fi_v3, fi_v4, fi_v5, fi_n0, fi_n1, fi_n2, fi_mm, fi_stat, fi_alds, fi_tsw, List.getElem?_cons_zero, List.getElem?_cons_succ, List.set_cons_zero, List.set_cons_succ, List.length_cons, List.length_nil, Option.toList_some, Option.toList_none, List.cons_append, List.nil_append, Value.category, true_and, k_0, k_1, k_2, k_3, k_4, false_implies, true_implies, reduceCtorEq]
  by_cases q : inI (fs_Xs g (6 * i + 1)) nA
  · obtain ⟨a, ha, e⟩ := inI_nat q (by omega)
    rw [e]
    refine ⟨by decide, (h_daysWith S70_X S70_O (a_daysWith S70_X hT hN ha _) hC).mono ?_⟩
    rintro r M' ⟨rfl, σ1, rfl, h1, s1⟩
    simp only [fi_const, fi_iload, fi_aload, fi_istore, fi_astore, fi_iinc, fi_bin, fi_div, fi_un, fi_dup, fi_dup2, fi_pop, fi_if, fi_cmp, fi_getf, fi_putf, fi_putr, fi_ald, fi_ast, fi_alen, fi_iret, fi_zret, fi_vret, fi_cut, fi_no, fi_s0, fi_s1, fi_s2, fi_s3, fi_s4, fi_v0, fi_v1, fi_v2, fi_v3, fi_v4, fi_v5, fi_n0, fi_n1, fi_n2, fi_mm, fi_stat, fi_alds, fi_tsw, List.getElem?_cons_zero, List.getElem?_cons_succ, List.set_cons_zero, List.set_cons_succ, List.length_cons, List.length_nil, Option.toList_some, Option.toList_none, List.cons_append, List.nil_append, Value.category, true_and, k_0, k_1, k_2, k_3, k_4, false_implies, true_implies, reduceCtorEq]
    refine ⟨by decide, ⟨_, hM.1⟩, (b_daysWith S70_X hT ha _ σ1 (hp.2.2.hi s1)).mono ?_⟩
    rintro r M' ⟨rfl, σ2, rfl, h2, s2, t2⟩
    simp only [fi_const, fi_iload, fi_aload, fi_istore, fi_astore, fi_iinc, fi_bin, fi_div, fi_un, fi_dup, fi_dup2, fi_pop, fi_if, fi_cmp, fi_getf, fi_putf, fi_putr, fi_ald, fi_ast, fi_alen, fi_iret, fi_zret, fi_vret, fi_cut, fi_no, fi_s0, fi_s1, fi_s2, fi_s3, fi_s4, fi_v0, fi_v1, fi_v2, fi_v3, fi_v4, fi_v5, fi_n0, fi_n1, fi_n2, fi_mm, fi_stat, fi_alds, fi_tsw, List.getElem?_cons_zero, List.getElem?_cons_succ, List.set_cons_zero, List.set_cons_succ, List.length_cons, List.length_nil, Option.toList_some, Option.toList_none, List.cons_append, List.nil_append, Value.category, true_and, k_0, k_1, k_2, k_3, k_4, false_implies, true_implies, reduceCtorEq]
    refine ⟨by decide, ⟨_, hM.1⟩, (c_thrown hM).mono ?_⟩
    rintro r M' ⟨rfl, rfl⟩
    rw [t2]
    simp only [fi_lald, fi_i2l, fi_lcmp, S70_O, i0, uL_eq, lgc, fi_const, fi_iload, fi_aload, fi_istore, fi_astore, fi_iinc, fi_bin, fi_div, fi_un, fi_dup, fi_dup2, fi_pop, fi_if, fi_cmp, fi_getf, fi_putf, fi_putr, fi_ald, fi_ast, fi_alen, fi_iret, fi_zret, fi_vret, fi_cut, fi_no, fi_s0, fi_s1, fi_s2, fi_s3, fi_s4, fi_v0, fi_v1, fi_v2, fi_v3, fi_v4, fi_v5, fi_n0, fi_n1, fi_n2, fi_mm, fi_stat, fi_alds, fi_tsw, List.getElem?_cons_zero, List.getElem?_cons_succ, List.set_cons_zero, List.set_cons_succ, List.length_cons, List.length_nil, Option.toList_some, Option.toList_none, List.cons_append, List.nil_append, Value.category, true_and, k_0, k_1, k_2, k_3, k_4, false_implies, true_implies, reduceCtorEq]
    exact ⟨⟨⟨K _ σ2 _ fr _ _ ⟨V, nL, nA, nS, kp, nb, hp.1, h1.low (fun a ha => s2 a (by omega)), h2⟩ hu.h, fun z => absurd trivial z⟩, fun z => absurd trivial z⟩, fun z => absurd trivial z⟩
  · refine ⟨by decide, (y_daysWith S70_X hl (by rw [hC.1.2.1]; exact inI_no q)).mono ?_⟩
    rintro r M' ⟨rfl, rfl⟩
    simp only [fi_const, fi_iload, fi_aload, fi_istore, fi_astore, fi_iinc, fi_bin, fi_div, fi_un, fi_dup, fi_dup2, fi_pop, fi_if, fi_cmp, fi_getf, fi_putf, fi_putr, fi_ald, fi_ast, fi_alen, fi_iret, fi_zret, fi_vret, fi_cut, fi_no, fi_s0, fi_s1, fi_s2, fi_s3, fi_s4, fi_v0, fi_v1, fi_v2, fi_v3, fi_v4, fi_v5, fi_n0, fi_n1, fi_n2, fi_mm, fi_stat, fi_alds, fi_tsw, List.getElem?_cons_zero, List.getElem?_cons_succ, List.set_cons_zero, List.set_cons_succ, List.length_cons, List.length_nil, Option.toList_some, Option.toList_none, List.cons_append, List.nil_append, Value.category, true_and, k_0, k_1, k_2, k_3, k_4, false_implies, true_implies, reduceCtorEq]
    refine ⟨by decide, ⟨_, hM.1⟩, (b_daysWith_x S70_X hT (q) _ σ hp.2.2).mono ?_⟩
    rintro r M' ⟨rfl, σ2, rfl, h2, s2, t2⟩
    simp only [fi_const, fi_iload, fi_aload, fi_istore, fi_astore, fi_iinc, fi_bin, fi_div, fi_un, fi_dup, fi_dup2, fi_pop, fi_if, fi_cmp, fi_getf, fi_putf, fi_putr, fi_ald, fi_ast, fi_alen, fi_iret, fi_zret, fi_vret, fi_cut, fi_no, fi_s0, fi_s1, fi_s2, fi_s3, fi_s4, fi_v0, fi_v1, fi_v2, fi_v3, fi_v4, fi_v5, fi_n0, fi_n1, fi_n2, fi_mm, fi_stat, fi_alds, fi_tsw, List.getElem?_cons_zero, List.getElem?_cons_succ, List.set_cons_zero, List.set_cons_succ, List.length_cons, List.length_nil, Option.toList_some, Option.toList_none, List.cons_append, List.nil_append, Value.category, true_and, k_0, k_1, k_2, k_3, k_4, false_implies, true_implies, reduceCtorEq]
    refine ⟨by decide, ⟨_, hM.1⟩, (c_thrown hM).mono ?_⟩
    rintro r M' ⟨rfl, rfl⟩
    rw [t2]
    simp only [fi_lald, fi_i2l, fi_lcmp, S70_O, fi_const, fi_iload, fi_aload, fi_istore, fi_astore, fi_iinc, fi_bin, fi_div, fi_un, fi_dup, fi_dup2, fi_pop, fi_if, fi_cmp, fi_getf, fi_putf, fi_putr, fi_ald, fi_ast, fi_alen, fi_iret, fi_zret, fi_vret, fi_cut, fi_no, fi_s0, fi_s1, fi_s2, fi_s3, fi_s4, fi_v0, fi_v1, fi_v2, fi_v3, fi_v4, fi_v5, fi_n0, fi_n1, fi_n2, fi_mm, fi_stat, fi_alds, fi_tsw, List.getElem?_cons_zero, List.getElem?_cons_succ, List.set_cons_zero, List.set_cons_succ, List.length_cons, List.length_nil, Option.toList_some, Option.toList_none, List.cons_append, List.nil_append, Value.category, true_and, k_0, k_1, k_2, k_3, k_4, false_implies, true_implies, reduceCtorEq]
    exact ⟨⟨fun z => absurd z (by decide), fun _ => K _ σ2 _ false _ _ ⟨V, nL, nA, nS, kp, nb, hp.1, hC.low (fun a ha => s2 a (by omega)), h2⟩ hu.h⟩, fun z => absurd trivial z⟩
theorem L_actorCost (hl : g.1.stackTraces = false) (hp : LPs σ V nL nA nS kp nb) (hi : i < N) (hu : bd u i) (hx : scO g i) (K : nxt g N d i Q) : fs_R g (m_L_law N) d u 1278 (lls i v5 v6) [] ((S70, fr), σ, τ) Q := by
  obtain ⟨hT, hN, h9, -⟩ := id hp.1
  have hLL := hT.2.2.2.1
  have hAA := hT.2.2.2.2.1
  have hSS := hT.2.2.2.2.2.1
  have hC := hp.2.1
  have hM := S70_X.m
  have i0 : vp_in 0 1 := pk_in 0 1 (by decide) (by decide) (by decide)
  refine S_L_law_1278 (hu.B hi) ?_
  simp only [T_L_law_1278, lls, fi_scr, sc_1, sc_2, scI hx (show 1 < 6 by decide), scI hx (show 2 < 6 by decide), scC hx (show 1 < 6 by decide), scC hx (show 2 < 6 by decide), fi_h3, fi_h4, fi_const, fi_iload, fi_aload, fi_istore, fi_astore, fi_iinc, fi_bin, fi_div, fi_un, fi_dup, fi_dup2, fi_pop, fi_if, fi_cmp, fi_getf, fi_putf, fi_putr, fi_ald, fi_ast, fi_alen, fi_iret, fi_zret, fi_vret, fi_cut, fi_no, fi_s0, fi_s1, fi_s2, fi_s3, fi_s4, fi_v0, fi_v1, fi_v2, fi_v3, fi_v4, fi_v5, fi_n0, fi_n1, fi_n2, fi_mm, fi_stat, fi_alds, fi_tsw, List.getElem?_cons_zero, List.getElem?_cons_succ, List.set_cons_zero, List.set_cons_succ, List.length_cons, List.length_nil, Option.toList_some, Option.toList_none, List.cons_append, List.nil_append, Value.category, true_and, k_0, k_1, k_2, k_3, k_4, false_implies, true_implies, reduceCtorEq]
  by_cases q : inI (fs_Xs g (6 * i + 1)) nA
  · obtain ⟨a, ha, e⟩ := inI_nat q (by omega)
    rw [e]
    refine ⟨by decide, (h_actorCost S70_X S70_O (a_actorCost S70_X hT hN ha) hC).mono ?_⟩
    rintro r M' ⟨rfl, σ1, rfl, h1, s1⟩
    simp only [fi_const, fi_iload, fi_aload, fi_istore, fi_astore, fi_iinc, fi_bin, fi_div, fi_un, fi_dup, fi_dup2, fi_pop, fi_if, fi_cmp, fi_getf, fi_putf, fi_putr, fi_ald, fi_ast, fi_alen, fi_iret, fi_zret, fi_vret, fi_cut, fi_no, fi_s0, fi_s1, fi_s2, fi_s3, fi_s4, fi_v0, fi_v1, fi_v2, fi_v3, fi_v4, fi_v5, fi_n0, fi_n1, fi_n2, fi_mm, fi_stat, fi_alds, fi_tsw, List.getElem?_cons_zero, List.getElem?_cons_succ, List.set_cons_zero, List.set_cons_succ, List.length_cons, List.length_nil, Option.toList_some, Option.toList_none, List.cons_append, List.nil_append, Value.category, true_and, k_0, k_1, k_2, k_3, k_4, false_implies, true_implies, reduceCtorEq]
    refine ⟨by decide, ⟨_, hM.1⟩, (b_actorCost S70_X hT ha σ1 (hp.2.2.hi s1)).mono ?_⟩
    rintro r M' ⟨rfl, σ2, rfl, h2, s2, t2⟩
    simp only [fi_const, fi_iload, fi_aload, fi_istore, fi_astore, fi_iinc, fi_bin, fi_div, fi_un, fi_dup, fi_dup2, fi_pop, fi_if, fi_cmp, fi_getf, fi_putf, fi_putr, fi_ald, fi_ast, fi_alen, fi_iret, fi_zret, fi_vret, fi_cut, fi_no, fi_s0, fi_s1, fi_s2, fi_s3, fi_s4, fi_v0, fi_v1, fi_v2, fi_v3, fi_v4, fi_v5, fi_n0, fi_n1, fi_n2, fi_mm, fi_stat, fi_alds, fi_tsw, List.getElem?_cons_zero, List.getElem?_cons_succ, List.set_cons_zero, List.set_cons_succ, List.length_cons, List.length_nil, Option.toList_some, Option.toList_none, List.cons_append, List.nil_append, Value.category, true_and, k_0, k_1, k_2, k_3, k_4, false_implies, true_implies, reduceCtorEq]
    refine ⟨by decide, ⟨_, hM.1⟩, (c_thrown hM).mono ?_⟩
    rintro r M' ⟨rfl, rfl⟩
    rw [t2]
    simp only [fi_lald, fi_i2l, fi_lcmp, S70_O, i0, uL_eq, lgc, fi_const, fi_iload, fi_aload, fi_istore, fi_astore, fi_iinc, fi_bin, fi_div, fi_un, fi_dup, fi_dup2, fi_pop, fi_if, fi_cmp, fi_getf, fi_putf, fi_putr, fi_ald, fi_ast, fi_alen, fi_iret, fi_zret, fi_vret, fi_cut, fi_no, fi_s0, fi_s1, fi_s2, fi_s3, fi_s4, fi_v0, fi_v1, fi_v2, fi_v3, fi_v4, fi_v5, fi_n0, fi_n1, fi_n2, fi_mm, fi_stat, fi_alds, fi_tsw, List.getElem?_cons_zero, List.getElem?_cons_succ, List.set_cons_zero, List.set_cons_succ, List.length_cons, List.length_nil, Option.toList_some, Option.toList_none, List.cons_append, List.nil_append, Value.category, true_and, k_0, k_1, k_2, k_3, k_4, false_implies, true_implies, reduceCtorEq]
    exact ⟨⟨⟨K _ σ2 _ fr _ _ ⟨V, nL, nA, nS, kp, nb, hp.1, h1.low (fun a ha => s2 a (by omega)), h2⟩ hu.h, fun z => absurd trivial z⟩, fun z => absurd trivial z⟩, fun z => absurd trivial z⟩
  · refine ⟨by decide, (y_actorCost S70_X hl (by rw [hC.1.2.1]; exact inI_no q)).mono ?_⟩
    rintro r M' ⟨rfl, rfl⟩
    simp only [fi_const, fi_iload, fi_aload, fi_istore, fi_astore, fi_iinc, fi_bin, fi_div, fi_un, fi_dup, fi_dup2, fi_pop, fi_if, fi_cmp, fi_getf, fi_putf, fi_putr, fi_ald, fi_ast, fi_alen, fi_iret, fi_zret, fi_vret, fi_cut, fi_no, fi_s0, fi_s1, fi_s2, fi_s3, fi_s4, fi_v0, fi_v1, fi_v2, fi_v3, fi_v4, fi_v5, fi_n0, fi_n1, fi_n2, fi_mm, fi_stat, fi_alds, fi_tsw, List.getElem?_cons_zero, List.getElem?_cons_succ, List.set_cons_zero, List.set_cons_succ, List.length_cons, List.length_nil, Option.toList_some, Option.toList_none, List.cons_append, List.nil_append, Value.category, true_and, k_0, k_1, k_2, k_3, k_4, false_implies, true_implies, reduceCtorEq]
    refine ⟨by decide, ⟨_, hM.1⟩, (b_actorCost_x S70_X hT (q) σ hp.2.2).mono ?_⟩
    rintro r M' ⟨rfl, σ2, rfl, h2, s2, t2⟩
    simp only [fi_const, fi_iload, fi_aload, fi_istore, fi_astore, fi_iinc, fi_bin, fi_div, fi_un, fi_dup, fi_dup2, fi_pop, fi_if, fi_cmp, fi_getf, fi_putf, fi_putr, fi_ald, fi_ast, fi_alen, fi_iret, fi_zret, fi_vret, fi_cut, fi_no, fi_s0, fi_s1, fi_s2, fi_s3, fi_s4, fi_v0, fi_v1, fi_v2, fi_v3, fi_v4, fi_v5, fi_n0, fi_n1, fi_n2, fi_mm, fi_stat, fi_alds, fi_tsw, List.getElem?_cons_zero, List.getElem?_cons_succ, List.set_cons_zero, List.set_cons_succ, List.length_cons, List.length_nil, Option.toList_some, Option.toList_none, List.cons_append, List.nil_append, Value.category, true_and, k_0, k_1, k_2, k_3, k_4, false_implies, true_implies, reduceCtorEq]
    refine ⟨by decide, ⟨_, hM.1⟩, (c_thrown hM).mono ?_⟩
    rintro r M' ⟨rfl, rfl⟩
    rw [t2]
    simp only [fi_lald, fi_i2l, fi_lcmp, S70_O, fi_const, fi_iload, fi_aload, fi_istore, fi_astore, fi_iinc, fi_bin, fi_div, fi_un, fi_dup, fi_dup2, fi_pop, fi_if, fi_cmp, fi_getf, fi_putf, fi_putr, fi_ald, fi_ast, fi_alen, fi_iret, fi_zret, fi_vret, fi_cut, fi_no, fi_s0, fi_s1, fi_s2, fi_s3, fi_s4, fi_v0, fi_v1, fi_v2, fi_v3, fi_v4, fi_v5, fi_n0, fi_n1, fi_n2, fi_mm, fi_stat, fi_alds, fi_tsw, List.getElem?_cons_zero, List.getElem?_cons_succ, List.set_cons_zero, List.set_cons_succ, List.length_cons, List.length_nil, Option.toList_some, Option.toList_none, List.cons_append, List.nil_append, Value.category, true_and, k_0, k_1, k_2, k_3, k_4, false_implies, true_implies, reduceCtorEq]
    exact ⟨⟨fun z => absurd z (by decide), fun _ => K _ σ2 _ false _ _ ⟨V, nL, nA, nS, kp, nb, hp.1, hC.low (fun a ha => s2 a (by omega)), h2⟩ hu.h⟩, fun z => absurd trivial z⟩
theorem L_reasonFor (hl : g.1.stackTraces = false) (hp : LPs σ V nL nA nS kp nb) (hi : i < N) (hu : bd u i) (hx : scO g i) (K : nxt g N d i Q) : fs_R g (m_L_law N) d u 1373 (lls i v5 v6) [] ((S70, fr), σ, τ) Q := by
  obtain ⟨hT, hN, h9, -⟩ := id hp.1
  have hLL := hT.2.2.2.1
  have hAA := hT.2.2.2.2.1
  have hSS := hT.2.2.2.2.2.1
  have hC := hp.2.1
  have hM := S70_X.m
  have i0 : vp_in 0 1 := pk_in 0 1 (by decide) (by decide) (by decide)
  refine S_L_law_1373 (hu.B hi) ?_
  simp only [T_L_law_1373, lls, fi_scr, sc_1, sc_2, scI hx (show 1 < 6 by decide), scI hx (show 2 < 6 by decide), scC hx (show 1 < 6 by decide), scC hx (show 2 < 6 by decide), fi_h3, fi_h4, fi_const, fi_iload, fi_aload, fi_istore, fi_astore, fi_iinc, fi_bin, fi_div, fi_un, fi_dup, fi_dup2, fi_pop, fi_if, fi_cmp, fi_getf, fi_putf, fi_putr, fi_ald, fi_ast, fi_alen, fi_iret, fi_zret, fi_vret, fi_cut, fi_no, fi_s0, fi_s1, fi_s2, fi_s3, fi_s4, fi_v0, fi_v1, fi_v2, fi_v3, fi_v4, fi_v5, fi_n0, fi_n1, fi_n2, fi_mm, fi_stat, fi_alds, fi_tsw, List.getElem?_cons_zero, List.getElem?_cons_succ, List.set_cons_zero, List.set_cons_succ, List.length_cons, List.length_nil, Option.toList_some, Option.toList_none, List.cons_append, List.nil_append, Value.category, true_and, k_0, k_1, k_2, k_3, k_4, false_implies, true_implies, reduceCtorEq]
  by_cases q : inI (fs_Xs g (6 * i + 1)) nS
  · by_cases q2 : inI (fs_Xs g (6 * i + 2)) 12
    · obtain ⟨a, ha, e⟩ := inI_nat q (by omega)
      obtain ⟨f, he, e2⟩ := inI_nat q2 (by decide)
      rw [e, e2]
      refine ⟨by decide, (h_reasonFor S70_X S70_O (a_reasonFor S70_X hT hN ha he) hC).mono ?_⟩
      rintro r M' ⟨rfl, σ1, rfl, h1, s1⟩
      simp only [fi_const, fi_iload, fi_aload, fi_istore, fi_astore, fi_iinc, fi_bin, fi_div, fi_un, fi_dup, fi_dup2, fi_pop, fi_if, fi_cmp, fi_getf, fi_putf, fi_putr, fi_ald, fi_ast, fi_alen, fi_iret, fi_zret, fi_vret, fi_cut, fi_no, fi_s0, fi_s1, fi_s2, fi_s3, fi_s4, fi_v0, fi_v1, fi_v2, fi_v3, fi_v4, fi_v5, fi_n0, fi_n1, fi_n2, fi_mm, fi_stat, fi_alds, fi_tsw, List.getElem?_cons_zero, List.getElem?_cons_succ, List.set_cons_zero, List.set_cons_succ, List.length_cons, List.length_nil, Option.toList_some, Option.toList_none, List.cons_append, List.nil_append, Value.category, true_and, k_0, k_1, k_2, k_3, k_4, false_implies, true_implies, reduceCtorEq]
      refine ⟨by decide, ⟨_, hM.1⟩, (b_reasonFor S70_X hT ha he σ1 (hp.2.2.hi s1)).mono ?_⟩
      rintro r M' ⟨rfl, σ2, rfl, h2, s2, t2⟩
      simp only [fi_const, fi_iload, fi_aload, fi_istore, fi_astore, fi_iinc, fi_bin, fi_div, fi_un, fi_dup, fi_dup2, fi_pop, fi_if, fi_cmp, fi_getf, fi_putf, fi_putr, fi_ald, fi_ast, fi_alen, fi_iret, fi_zret, fi_vret, fi_cut, fi_no, fi_s0, fi_s1, fi_s2, fi_s3, fi_s4, fi_v0, fi_v1, fi_v2, fi_v3, fi_v4, fi_v5, fi_n0, fi_n1, fi_n2, fi_mm, fi_stat, fi_alds, fi_tsw, List.getElem?_cons_zero, List.getElem?_cons_succ, List.set_cons_zero, List.set_cons_succ, List.length_cons, List.length_nil, Option.toList_some, Option.toList_none, List.cons_append, List.nil_append, Value.category, true_and, k_0, k_1, k_2, k_3, k_4, false_implies, true_implies, reduceCtorEq]
      refine ⟨by decide, ⟨_, hM.1⟩, (c_thrown hM).mono ?_⟩
      rintro r M' ⟨rfl, rfl⟩
      rw [t2]
      simp only [fi_lald, fi_i2l, fi_lcmp, S70_O, i0, uL_eq, lgc, fi_const, fi_iload, fi_aload, fi_istore, fi_astore, fi_iinc, fi_bin, fi_div, fi_un, fi_dup, fi_dup2, fi_pop, fi_if, fi_cmp, fi_getf, fi_putf, fi_putr, fi_ald, fi_ast, fi_alen, fi_iret, fi_zret, fi_vret, fi_cut, fi_no, fi_s0, fi_s1, fi_s2, fi_s3, fi_s4, fi_v0, fi_v1, fi_v2, fi_v3, fi_v4, fi_v5, fi_n0, fi_n1, fi_n2, fi_mm, fi_stat, fi_alds, fi_tsw, List.getElem?_cons_zero, List.getElem?_cons_succ, List.set_cons_zero, List.set_cons_succ, List.length_cons, List.length_nil, Option.toList_some, Option.toList_none, List.cons_append, List.nil_append, Value.category, true_and, k_0, k_1, k_2, k_3, k_4, false_implies, true_implies, reduceCtorEq]
      exact ⟨⟨⟨K _ σ2 _ fr _ _ ⟨V, nL, nA, nS, kp, nb, hp.1, h1.low (fun a ha => s2 a (by omega)), h2⟩ hu.h, fun z => absurd trivial z⟩, fun z => absurd trivial z⟩, fun z => absurd trivial z⟩
    · refine ⟨by decide, (y_reasonFor2 S70_X hl (by rw [hC.1.2.2]; exact inI_yes q) (inI_no q2)).mono ?_⟩
      rintro r M' ⟨rfl, rfl⟩
      simp only [fi_const, fi_iload, fi_aload, fi_istore, fi_astore, fi_iinc, fi_bin, fi_div, fi_un, fi_dup, fi_dup2, fi_pop, fi_if, fi_cmp, fi_getf, fi_putf, fi_putr, fi_ald, fi_ast, fi_alen, fi_iret, fi_zret, fi_vret, fi_cut, fi_no, fi_s0, fi_s1, fi_s2, fi_s3, fi_s4, fi_v0, fi_v1, fi_v2, fi_v3, fi_v4, fi_v5, fi_n0, fi_n1, fi_n2, fi_mm, fi_stat, fi_alds, fi_tsw, List.getElem?_cons_zero, List.getElem?_cons_succ, List.set_cons_zero, List.set_cons_succ, List.length_cons, List.length_nil, Option.toList_some, Option.toList_none, List.cons_append, List.nil_append, Value.category, true_and, k_0, k_1, k_2, k_3, k_4, false_implies, true_implies, reduceCtorEq]
      refine ⟨by decide, ⟨_, hM.1⟩, (b_reasonFor_x S70_X hT (fun z => q2 z.2) σ hp.2.2).mono ?_⟩
      rintro r M' ⟨rfl, σ2, rfl, h2, s2, t2⟩
      simp only [fi_const, fi_iload, fi_aload, fi_istore, fi_astore, fi_iinc, fi_bin, fi_div, fi_un, fi_dup, fi_dup2, fi_pop, fi_if, fi_cmp, fi_getf, fi_putf, fi_putr, fi_ald, fi_ast, fi_alen, fi_iret, fi_zret, fi_vret, fi_cut, fi_no, fi_s0, fi_s1, fi_s2, fi_s3, fi_s4, fi_v0, fi_v1, fi_v2, fi_v3, fi_v4, fi_v5, fi_n0, fi_n1, fi_n2, fi_mm, fi_stat, fi_alds, fi_tsw, List.getElem?_cons_zero, List.getElem?_cons_succ, List.set_cons_zero, List.set_cons_succ, List.length_cons, List.length_nil, Option.toList_some, Option.toList_none, List.cons_append, List.nil_append, Value.category, true_and, k_0, k_1, k_2, k_3, k_4, false_implies, true_implies, reduceCtorEq]
      refine ⟨by decide, ⟨_, hM.1⟩, (c_thrown hM).mono ?_⟩
      rintro r M' ⟨rfl, rfl⟩
      rw [t2]
      simp only [fi_lald, fi_i2l, fi_lcmp, S70_O, fi_const, fi_iload, fi_aload, fi_istore, fi_astore, fi_iinc, fi_bin, fi_div, fi_un, fi_dup, fi_dup2, fi_pop, fi_if, fi_cmp, fi_getf, fi_putf, fi_putr, fi_ald, fi_ast, fi_alen, fi_iret, fi_zret, fi_vret, fi_cut, fi_no, fi_s0, fi_s1, fi_s2, fi_s3, fi_s4, fi_v0, fi_v1, fi_v2, fi_v3, fi_v4, fi_v5, fi_n0, fi_n1, fi_n2, fi_mm, fi_stat, fi_alds, fi_tsw, List.getElem?_cons_zero, List.getElem?_cons_succ, List.set_cons_zero, List.set_cons_succ, List.length_cons, List.length_nil, Option.toList_some, Option.toList_none, List.cons_append, List.nil_append, Value.category, true_and, k_0, k_1, k_2, k_3, k_4, false_implies, true_implies, reduceCtorEq]
      exact ⟨⟨fun z => absurd z (by decide), fun _ => K _ σ2 _ false _ _ ⟨V, nL, nA, nS, kp, nb, hp.1, hC.low (fun a ha => s2 a (by omega)), h2⟩ hu.h⟩, fun z => absurd trivial z⟩
  · refine ⟨by decide, (y_reasonFor S70_X hl (by rw [hC.1.2.2]; exact inI_no q)).mono ?_⟩
    rintro r M' ⟨rfl, rfl⟩
    simp only [fi_const, fi_iload, fi_aload, fi_istore, fi_astore, fi_iinc, fi_bin, fi_div, fi_un, fi_dup, fi_dup2, fi_pop, fi_if, fi_cmp, fi_getf, fi_putf, fi_putr, fi_ald, fi_ast, fi_alen, fi_iret, fi_zret, fi_vret, fi_cut, fi_no, fi_s0, fi_s1, fi_s2, fi_s3, fi_s4, fi_v0, fi_v1, fi_v2, fi_v3, fi_v4, fi_v5, fi_n0, fi_n1, fi_n2, fi_mm, fi_stat, fi_alds, fi_tsw, List.getElem?_cons_zero, List.getElem?_cons_succ, List.set_cons_zero, List.set_cons_succ, List.length_cons, List.length_nil, Option.toList_some, Option.toList_none, List.cons_append, List.nil_append, Value.category, true_and, k_0, k_1, k_2, k_3, k_4, false_implies, true_implies, reduceCtorEq]
    refine ⟨by decide, ⟨_, hM.1⟩, (b_reasonFor_x S70_X hT (fun z => q z.1) σ hp.2.2).mono ?_⟩
    rintro r M' ⟨rfl, σ2, rfl, h2, s2, t2⟩
    simp only [fi_const, fi_iload, fi_aload, fi_istore, fi_astore, fi_iinc, fi_bin, fi_div, fi_un, fi_dup, fi_dup2, fi_pop, fi_if, fi_cmp, fi_getf, fi_putf, fi_putr, fi_ald, fi_ast, fi_alen, fi_iret, fi_zret, fi_vret, fi_cut, fi_no, fi_s0, fi_s1, fi_s2, fi_s3, fi_s4, fi_v0, fi_v1, fi_v2, fi_v3, fi_v4, fi_v5, fi_n0, fi_n1, fi_n2, fi_mm, fi_stat, fi_alds, fi_tsw, List.getElem?_cons_zero, List.getElem?_cons_succ, List.set_cons_zero, List.set_cons_succ, List.length_cons, List.length_nil, Option.toList_some, Option.toList_none, List.cons_append, List.nil_append, Value.category, true_and, k_0, k_1, k_2, k_3, k_4, false_implies, true_implies, reduceCtorEq]
    refine ⟨by decide, ⟨_, hM.1⟩, (c_thrown hM).mono ?_⟩
    rintro r M' ⟨rfl, rfl⟩
    rw [t2]
    simp only [fi_lald, fi_i2l, fi_lcmp, S70_O, fi_const, fi_iload, fi_aload, fi_istore, fi_astore, fi_iinc, fi_bin, fi_div, fi_un, fi_dup, fi_dup2, fi_pop, fi_if, fi_cmp, fi_getf, fi_putf, fi_putr, fi_ald, fi_ast, fi_alen, fi_iret, fi_zret, fi_vret, fi_cut, fi_no, fi_s0, fi_s1, fi_s2, fi_s3, fi_s4, fi_v0, fi_v1, fi_v2, fi_v3, fi_v4, fi_v5, fi_n0, fi_n1, fi_n2, fi_mm, fi_stat, fi_alds, fi_tsw, List.getElem?_cons_zero, List.getElem?_cons_succ, List.set_cons_zero, List.set_cons_succ, List.length_cons, List.length_nil, Option.toList_some, Option.toList_none, List.cons_append, List.nil_append, Value.category, true_and, k_0, k_1, k_2, k_3, k_4, false_implies, true_implies, reduceCtorEq]
    exact ⟨⟨fun z => absurd z (by decide), fun _ => K _ σ2 _ false _ _ ⟨V, nL, nA, nS, kp, nb, hp.1, hC.low (fun a ha => s2 a (by omega)), h2⟩ hu.h⟩, fun z => absurd trivial z⟩
theorem L_daysFor (hl : g.1.stackTraces = false) (hp : LPs σ V nL nA nS kp nb) (hi : i < N) (hu : bd u i) (hx : scO g i) (K : nxt g N d i Q) : fs_R g (m_L_law N) d u 1441 (lls i v5 v6) [] ((S70, fr), σ, τ) Q := by
  obtain ⟨hT, hN, h9, -⟩ := id hp.1
  have hLL := hT.2.2.2.1
  have hAA := hT.2.2.2.2.1
  have hSS := hT.2.2.2.2.2.1
  have hC := hp.2.1
  have hM := S70_X.m
  have i0 : vp_in 0 1 := pk_in 0 1 (by decide) (by decide) (by decide)
  refine S_L_law_1441 (hu.B hi) ?_
  simp only [T_L_law_1441, lls, fi_scr, sc_1, sc_2, scI hx (show 1 < 6 by decide), scI hx (show 2 < 6 by decide), scC hx (show 1 < 6 by decide), scC hx (show 2 < 6 by decide), fi_h3, fi_h4, fi_const, fi_iload, fi_aload, fi_istore, fi_astore, fi_iinc, fi_bin, fi_div, fi_un, fi_dup, fi_dup2, fi_pop, fi_if, fi_cmp, fi_getf, fi_putf, fi_putr, fi_ald, fi_ast, fi_alen, fi_iret, fi_zret, fi_vret, fi_cut, fi_no, fi_s0, fi_s1, fi_s2, fi_s3, fi_s4, fi_v0, fi_v1, fi_v2, fi_v3, fi_v4, fi_v5, fi_n0, fi_n1, fi_n2, fi_mm, fi_stat, fi_alds, fi_tsw, List.getElem?_cons_zero, List.getElem?_cons_succ, List.set_cons_zero, List.set_cons_succ, List.length_cons, List.length_nil, Option.toList_some, Option.toList_none, List.cons_append, List.nil_append, Value.category, true_and, k_0, k_1, k_2, k_3, k_4, false_implies, true_implies, reduceCtorEq]
  by_cases q : inI (fs_Xs g (6 * i + 1)) nS
  · obtain ⟨a, ha, e⟩ := inI_nat q (by omega)
    rw [e]
    refine ⟨by decide, (h_daysFor S70_X S70_O (a_daysFor S70_X hT hN ha) hC).mono ?_⟩
    rintro r M' ⟨rfl, σ1, rfl, h1, s1⟩
    simp only [fi_const, fi_iload, fi_aload, fi_istore, fi_astore, fi_iinc, fi_bin, fi_div, fi_un, fi_dup, fi_dup2, fi_pop, fi_if, fi_cmp, fi_getf, fi_putf, fi_putr, fi_ald, fi_ast, fi_alen, fi_iret, fi_zret, fi_vret, fi_cut, fi_no, fi_s0, fi_s1, fi_s2, fi_s3, fi_s4, fi_v0, fi_v1, fi_v2, fi_v3, fi_v4, fi_v5, fi_n0, fi_n1, fi_n2, fi_mm, fi_stat, fi_alds, fi_tsw, List.getElem?_cons_zero, List.getElem?_cons_succ, List.set_cons_zero, List.set_cons_succ, List.length_cons, List.length_nil, Option.toList_some, Option.toList_none, List.cons_append, List.nil_append, Value.category, true_and, k_0, k_1, k_2, k_3, k_4, false_implies, true_implies, reduceCtorEq]
    refine ⟨by decide, ⟨_, hM.1⟩, (b_daysFor S70_X hT ha σ1 (hp.2.2.hi s1)).mono ?_⟩
    rintro r M' ⟨rfl, σ2, rfl, h2, s2, t2⟩
    simp only [fi_const, fi_iload, fi_aload, fi_istore, fi_astore, fi_iinc, fi_bin, fi_div, fi_un, fi_dup, fi_dup2, fi_pop, fi_if, fi_cmp, fi_getf, fi_putf, fi_putr, fi_ald, fi_ast, fi_alen, fi_iret, fi_zret, fi_vret, fi_cut, fi_no, fi_s0, fi_s1, fi_s2, fi_s3, fi_s4, fi_v0, fi_v1, fi_v2, fi_v3, fi_v4, fi_v5, fi_n0, fi_n1, fi_n2, fi_mm, fi_stat, fi_alds, fi_tsw, List.getElem?_cons_zero, List.getElem?_cons_succ, List.set_cons_zero, List.set_cons_succ, List.length_cons, List.length_nil, Option.toList_some, Option.toList_none, List.cons_append, List.nil_append, Value.category, true_and, k_0, k_1, k_2, k_3, k_4, false_implies, true_implies, reduceCtorEq]
    refine ⟨by decide, ⟨_, hM.1⟩, (c_thrown hM).mono ?_⟩
    rintro r M' ⟨rfl, rfl⟩
    rw [t2]
    simp only [fi_lald, fi_i2l, fi_lcmp, S70_O, i0, uL_eq, lgc, fi_const, fi_iload, fi_aload, fi_istore, fi_astore, fi_iinc, fi_bin, fi_div, fi_un, fi_dup, fi_dup2, fi_pop, fi_if, fi_cmp, fi_getf, fi_putf, fi_putr, fi_ald, fi_ast, fi_alen, fi_iret, fi_zret, fi_vret, fi_cut, fi_no, fi_s0, fi_s1, fi_s2, fi_s3, fi_s4, fi_v0, fi_v1, fi_v2, fi_v3, fi_v4, fi_v5, fi_n0, fi_n1, fi_n2, fi_mm, fi_stat, fi_alds, fi_tsw, List.getElem?_cons_zero, List.getElem?_cons_succ, List.set_cons_zero, List.set_cons_succ, List.length_cons, List.length_nil, Option.toList_some, Option.toList_none, List.cons_append, List.nil_append, Value.category, true_and, k_0, k_1, k_2, k_3, k_4, false_implies, true_implies, reduceCtorEq]
    exact ⟨⟨⟨K _ σ2 _ fr _ _ ⟨V, nL, nA, nS, kp, nb, hp.1, h1.low (fun a ha => s2 a (by omega)), h2⟩ hu.h, fun z => absurd trivial z⟩, fun z => absurd trivial z⟩, fun z => absurd trivial z⟩
  · refine ⟨by decide, (y_daysFor S70_X hl (by rw [hC.1.2.2]; exact inI_no q)).mono ?_⟩
    rintro r M' ⟨rfl, rfl⟩
    simp only [fi_const, fi_iload, fi_aload, fi_istore, fi_astore, fi_iinc, fi_bin, fi_div, fi_un, fi_dup, fi_dup2, fi_pop, fi_if, fi_cmp, fi_getf, fi_putf, fi_putr, fi_ald, fi_ast, fi_alen, fi_iret, fi_zret, fi_vret, fi_cut, fi_no, fi_s0, fi_s1, fi_s2, fi_s3, fi_s4, fi_v0, fi_v1, fi_v2, fi_v3, fi_v4, fi_v5, fi_n0, fi_n1, fi_n2, fi_mm, fi_stat, fi_alds, fi_tsw, List.getElem?_cons_zero, List.getElem?_cons_succ, List.set_cons_zero, List.set_cons_succ, List.length_cons, List.length_nil, Option.toList_some, Option.toList_none, List.cons_append, List.nil_append, Value.category, true_and, k_0, k_1, k_2, k_3, k_4, false_implies, true_implies, reduceCtorEq]
    refine ⟨by decide, ⟨_, hM.1⟩, (b_daysFor_x S70_X hT (q) σ hp.2.2).mono ?_⟩
    rintro r M' ⟨rfl, σ2, rfl, h2, s2, t2⟩
    simp only [fi_const, fi_iload, fi_aload, fi_istore, fi_astore, fi_iinc, fi_bin, fi_div, fi_un, fi_dup, fi_dup2, fi_pop, fi_if, fi_cmp, fi_getf, fi_putf, fi_putr, fi_ald, fi_ast, fi_alen, fi_iret, fi_zret, fi_vret, fi_cut, fi_no, fi_s0, fi_s1, fi_s2, fi_s3, fi_s4, fi_v0, fi_v1, fi_v2, fi_v3, fi_v4, fi_v5, fi_n0, fi_n1, fi_n2, fi_mm, fi_stat, fi_alds, fi_tsw, List.getElem?_cons_zero, List.getElem?_cons_succ, List.set_cons_zero, List.set_cons_succ, List.length_cons, List.length_nil, Option.toList_some, Option.toList_none, List.cons_append, List.nil_append, Value.category, true_and, k_0, k_1, k_2, k_3, k_4, false_implies, true_implies, reduceCtorEq]
    refine ⟨by decide, ⟨_, hM.1⟩, (c_thrown hM).mono ?_⟩
    rintro r M' ⟨rfl, rfl⟩
    rw [t2]
    simp only [fi_lald, fi_i2l, fi_lcmp, S70_O, fi_const, fi_iload, fi_aload, fi_istore, fi_astore, fi_iinc, fi_bin, fi_div, fi_un, fi_dup, fi_dup2, fi_pop, fi_if, fi_cmp, fi_getf, fi_putf, fi_putr, fi_ald, fi_ast, fi_alen, fi_iret, fi_zret, fi_vret, fi_cut, fi_no, fi_s0, fi_s1, fi_s2, fi_s3, fi_s4, fi_v0, fi_v1, fi_v2, fi_v3, fi_v4, fi_v5, fi_n0, fi_n1, fi_n2, fi_mm, fi_stat, fi_alds, fi_tsw, List.getElem?_cons_zero, List.getElem?_cons_succ, List.set_cons_zero, List.set_cons_succ, List.length_cons, List.length_nil, Option.toList_some, Option.toList_none, List.cons_append, List.nil_append, Value.category, true_and, k_0, k_1, k_2, k_3, k_4, false_implies, true_implies, reduceCtorEq]
    exact ⟨⟨fun z => absurd z (by decide), fun _ => K _ σ2 _ false _ _ ⟨V, nL, nA, nS, kp, nb, hp.1, hC.low (fun a ha => s2 a (by omega)), h2⟩ hu.h⟩, fun z => absurd trivial z⟩
theorem L_costWith (hl : g.1.stackTraces = false) (hp : LPs σ V nL nA nS kp nb) (hi : i < N) (hu : bd u i) (hx : scO g i) (K : nxt g N d i Q) : fs_R g (m_L_law N) d u 1497 (lls i v5 v6) [] ((S70, fr), σ, τ) Q := by
  obtain ⟨hT, hN, h9, -⟩ := id hp.1
  have hLL := hT.2.2.2.1
  have hAA := hT.2.2.2.2.1
  have hSS := hT.2.2.2.2.2.1
  have hC := hp.2.1
  have hM := S70_X.m
  have i0 : vp_in 0 1 := pk_in 0 1 (by decide) (by decide) (by decide)
  refine S_L_law_1497 (hu.B hi) ?_
  simp only [T_L_law_1497, lls, fi_scr, sc_1, sc_2, scI hx (show 1 < 6 by decide), scI hx (show 2 < 6 by decide), scC hx (show 1 < 6 by decide), scC hx (show 2 < 6 by decide), fi_h3, fi_h4, fi_const, fi_iload, fi_aload, fi_istore, fi_astore, fi_iinc, fi_bin, fi_div, fi_un, fi_dup, fi_dup2, fi_pop, fi_if, fi_cmp, fi_getf, fi_putf, fi_putr, fi_ald, fi_ast, fi_alen, fi_iret, fi_zret, fi_vret, fi_cut, fi_no, fi_s0, fi_s1, fi_s2, fi_s3, fi_s4, fi_v0, fi_v1, fi_v2, fi_v3, fi_v4, fi_v5, fi_n0, fi_n1, fi_n2, fi_mm, fi_stat, fi_alds, fi_tsw, List.getElem?_cons_zero, List.getElem?_cons_succ, List.set_cons_zero, List.set_cons_succ, List.length_cons, List.length_nil, Option.toList_some, Option.toList_none, List.cons_append, List.nil_append, Value.category, true_and, k_0, k_1, k_2, k_3, k_4, false_implies, true_implies, reduceCtorEq]
  by_cases q : inI (fs_Xs g (6 * i + 1)) nS
  · by_cases q2 : inI (fs_Xs g (6 * i + 2)) 12
    · obtain ⟨a, ha, e⟩ := inI_nat q (by omega)
      obtain ⟨f, he, e2⟩ := inI_nat q2 (by decide)
      rw [e, e2]
      refine ⟨by decide, (h_costWith S70_X S70_O (a_costWith S70_X hT hN ha he) hC).mono ?_⟩
      rintro r M' ⟨rfl, σ1, rfl, h1, s1⟩
      simp only [fi_const, fi_iload, fi_aload, fi_istore, fi_astore, fi_iinc, fi_bin, fi_div, fi_un, fi_dup, fi_dup2, fi_pop, fi_if, fi_cmp, fi_getf, fi_putf, fi_putr, fi_ald, fi_ast, fi_alen, fi_iret, fi_zret, fi_vret, fi_cut, fi_no, fi_s0, fi_s1, fi_s2, fi_s3, fi_s4, fi_v0, fi_v1, fi_v2, fi_v3, fi_v4, fi_v5, fi_n0, fi_n1, fi_n2, fi_mm, fi_stat, fi_alds, fi_tsw, List.getElem?_cons_zero, List.getElem?_cons_succ, List.set_cons_zero, List.set_cons_succ, List.length_cons, List.length_nil, Option.toList_some, Option.toList_none, List.cons_append, List.nil_append, Value.category, true_and, k_0, k_1, k_2, k_3, k_4, false_implies, true_implies, reduceCtorEq]
      refine ⟨by decide, ⟨_, hM.1⟩, (b_costWith S70_X hT ha he σ1 (hp.2.2.hi s1)).mono ?_⟩
      rintro r M' ⟨rfl, σ2, rfl, h2, s2, t2⟩
      simp only [fi_const, fi_iload, fi_aload, fi_istore, fi_astore, fi_iinc, fi_bin, fi_div, fi_un, fi_dup, fi_dup2, fi_pop, fi_if, fi_cmp, fi_getf, fi_putf, fi_putr, fi_ald, fi_ast, fi_alen, fi_iret, fi_zret, fi_vret, fi_cut, fi_no, fi_s0, fi_s1, fi_s2, fi_s3, fi_s4, fi_v0, fi_v1, fi_v2, fi_v3, fi_v4, fi_v5, fi_n0, fi_n1, fi_n2, fi_mm, fi_stat, fi_alds, fi_tsw, List.getElem?_cons_zero, List.getElem?_cons_succ, List.set_cons_zero, List.set_cons_succ, List.length_cons, List.length_nil, Option.toList_some, Option.toList_none, List.cons_append, List.nil_append, Value.category, true_and, k_0, k_1, k_2, k_3, k_4, false_implies, true_implies, reduceCtorEq]
      refine ⟨by decide, ⟨_, hM.1⟩, (c_thrown hM).mono ?_⟩
      rintro r M' ⟨rfl, rfl⟩
      rw [t2]
      simp only [fi_lald, fi_i2l, fi_lcmp, S70_O, i0, uL_eq, lgc, fi_const, fi_iload, fi_aload, fi_istore, fi_astore, fi_iinc, fi_bin, fi_div, fi_un, fi_dup, fi_dup2, fi_pop, fi_if, fi_cmp, fi_getf, fi_putf, fi_putr, fi_ald, fi_ast, fi_alen, fi_iret, fi_zret, fi_vret, fi_cut, fi_no, fi_s0, fi_s1, fi_s2, fi_s3, fi_s4, fi_v0, fi_v1, fi_v2, fi_v3, fi_v4, fi_v5, fi_n0, fi_n1, fi_n2, fi_mm, fi_stat, fi_alds, fi_tsw, List.getElem?_cons_zero, List.getElem?_cons_succ, List.set_cons_zero, List.set_cons_succ, List.length_cons, List.length_nil, Option.toList_some, Option.toList_none, List.cons_append, List.nil_append, Value.category, true_and, k_0, k_1, k_2, k_3, k_4, false_implies, true_implies, reduceCtorEq]
      exact ⟨⟨⟨K _ σ2 _ fr _ _ ⟨V, nL, nA, nS, kp, nb, hp.1, h1.low (fun a ha => s2 a (by omega)), h2⟩ hu.h, fun z => absurd trivial z⟩, fun z => absurd trivial z⟩, fun z => absurd trivial z⟩
    · refine ⟨by decide, (y_costWith2 S70_X hl (by rw [hC.1.2.2]; exact inI_yes q) (inI_no q2)).mono ?_⟩
      rintro r M' ⟨rfl, rfl⟩
      simp only [fi_const, fi_iload, fi_aload, fi_istore, fi_astore, fi_iinc, fi_bin, fi_div, fi_un, fi_dup, fi_dup2, fi_pop, fi_if, fi_cmp, fi_getf, fi_putf, fi_putr, fi_ald, fi_ast, fi_alen, fi_iret, fi_zret, fi_vret, fi_cut, fi_no, fi_s0, fi_s1, fi_s2, fi_s3, fi_s4, fi_v0, fi_v1, fi_v2, fi_v3, fi_v4, fi_v5, fi_n0, fi_n1, fi_n2, fi_mm, fi_stat, fi_alds, fi_tsw, List.getElem?_cons_zero, List.getElem?_cons_succ, List.set_cons_zero, List.set_cons_succ, List.length_cons, List.length_nil, Option.toList_some, Option.toList_none, List.cons_append, List.nil_append, Value.category, true_and, k_0, k_1, k_2, k_3, k_4, false_implies, true_implies, reduceCtorEq]
      refine ⟨by decide, ⟨_, hM.1⟩, (b_costWith_x S70_X hT (fun z => q2 z.2) σ hp.2.2).mono ?_⟩
      rintro r M' ⟨rfl, σ2, rfl, h2, s2, t2⟩
      simp only [fi_const, fi_iload, fi_aload, fi_istore, fi_astore, fi_iinc, fi_bin, fi_div, fi_un, fi_dup, fi_dup2, fi_pop, fi_if, fi_cmp, fi_getf, fi_putf, fi_putr, fi_ald, fi_ast, fi_alen, fi_iret, fi_zret, fi_vret, fi_cut, fi_no, fi_s0, fi_s1, fi_s2, fi_s3, fi_s4, fi_v0, fi_v1, fi_v2, fi_v3, fi_v4, fi_v5, fi_n0, fi_n1, fi_n2, fi_mm, fi_stat, fi_alds, fi_tsw, List.getElem?_cons_zero, List.getElem?_cons_succ, List.set_cons_zero, List.set_cons_succ, List.length_cons, List.length_nil, Option.toList_some, Option.toList_none, List.cons_append, List.nil_append, Value.category, true_and, k_0, k_1, k_2, k_3, k_4, false_implies, true_implies, reduceCtorEq]
      refine ⟨by decide, ⟨_, hM.1⟩, (c_thrown hM).mono ?_⟩
      rintro r M' ⟨rfl, rfl⟩
      rw [t2]
      simp only [fi_lald, fi_i2l, fi_lcmp, S70_O, fi_const, fi_iload, fi_aload, fi_istore, fi_astore, fi_iinc, fi_bin, fi_div, fi_un, fi_dup, fi_dup2, fi_pop, fi_if, fi_cmp, fi_getf, fi_putf, fi_putr, fi_ald, fi_ast, fi_alen, fi_iret, fi_zret, fi_vret, fi_cut, fi_no, fi_s0, fi_s1, fi_s2, fi_s3, fi_s4, fi_v0, fi_v1, fi_v2, fi_v3, fi_v4, fi_v5, fi_n0, fi_n1, fi_n2, fi_mm, fi_stat, fi_alds, fi_tsw, List.getElem?_cons_zero, List.getElem?_cons_succ, List.set_cons_zero, List.set_cons_succ, List.length_cons, List.length_nil, Option.toList_some, Option.toList_none, List.cons_append, List.nil_append, Value.category, true_and, k_0, k_1, k_2, k_3, k_4, false_implies, true_implies, reduceCtorEq]
      exact ⟨⟨fun z => absurd z (by decide), fun _ => K _ σ2 _ false _ _ ⟨V, nL, nA, nS, kp, nb, hp.1, hC.low (fun a ha => s2 a (by omega)), h2⟩ hu.h⟩, fun z => absurd trivial z⟩
  · refine ⟨by decide, (y_costWith S70_X hl (by rw [hC.1.2.2]; exact inI_no q)).mono ?_⟩
    rintro r M' ⟨rfl, rfl⟩
    simp only [fi_const, fi_iload, fi_aload, fi_istore, fi_astore, fi_iinc, fi_bin, fi_div, fi_un, fi_dup, fi_dup2, fi_pop, fi_if, fi_cmp, fi_getf, fi_putf, fi_putr, fi_ald, fi_ast, fi_alen, fi_iret, fi_zret, fi_vret, fi_cut, fi_no, fi_s0, fi_s1, fi_s2, fi_s3, fi_s4, fi_v0, fi_v1, fi_v2, fi_v3, fi_v4, fi_v5, fi_n0, fi_n1, fi_n2, fi_mm, fi_stat, fi_alds, fi_tsw, List.getElem?_cons_zero, List.getElem?_cons_succ, List.set_cons_zero, List.set_cons_succ, List.length_cons, List.length_nil, Option.toList_some, Option.toList_none, List.cons_append, List.nil_append, Value.category, true_and, k_0, k_1, k_2, k_3, k_4, false_implies, true_implies, reduceCtorEq]
    refine ⟨by decide, ⟨_, hM.1⟩, (b_costWith_x S70_X hT (fun z => q z.1) σ hp.2.2).mono ?_⟩
    rintro r M' ⟨rfl, σ2, rfl, h2, s2, t2⟩
    simp only [fi_const, fi_iload, fi_aload, fi_istore, fi_astore, fi_iinc, fi_bin, fi_div, fi_un, fi_dup, fi_dup2, fi_pop, fi_if, fi_cmp, fi_getf, fi_putf, fi_putr, fi_ald, fi_ast, fi_alen, fi_iret, fi_zret, fi_vret, fi_cut, fi_no, fi_s0, fi_s1, fi_s2, fi_s3, fi_s4, fi_v0, fi_v1, fi_v2, fi_v3, fi_v4, fi_v5, fi_n0, fi_n1, fi_n2, fi_mm, fi_stat, fi_alds, fi_tsw, List.getElem?_cons_zero, List.getElem?_cons_succ, List.set_cons_zero, List.set_cons_succ, List.length_cons, List.length_nil, Option.toList_some, Option.toList_none, List.cons_append, List.nil_append, Value.category, true_and, k_0, k_1, k_2, k_3, k_4, false_implies, true_implies, reduceCtorEq]
    refine ⟨by decide, ⟨_, hM.1⟩, (c_thrown hM).mono ?_⟩
    rintro r M' ⟨rfl, rfl⟩
    rw [t2]
    simp only [fi_lald, fi_i2l, fi_lcmp, S70_O, fi_const, fi_iload, fi_aload, fi_istore, fi_astore, fi_iinc, fi_bin, fi_div, fi_un, fi_dup, fi_dup2, fi_pop, fi_if, fi_cmp, fi_getf, fi_putf, fi_putr, fi_ald, fi_ast, fi_alen, fi_iret, fi_zret, fi_vret, fi_cut, fi_no, fi_s0, fi_s1, fi_s2, fi_s3, fi_s4, fi_v0, fi_v1, fi_v2, fi_v3, fi_v4, fi_v5, fi_n0, fi_n1, fi_n2, fi_mm, fi_stat, fi_alds, fi_tsw, List.getElem?_cons_zero, List.getElem?_cons_succ, List.set_cons_zero, List.set_cons_succ, List.length_cons, List.length_nil, Option.toList_some, Option.toList_none, List.cons_append, List.nil_append, Value.category, true_and, k_0, k_1, k_2, k_3, k_4, false_implies, true_implies, reduceCtorEq]
    exact ⟨⟨fun z => absurd z (by decide), fun _ => K _ σ2 _ false _ _ ⟨V, nL, nA, nS, kp, nb, hp.1, hC.low (fun a ha => s2 a (by omega)), h2⟩ hu.h⟩, fun z => absurd trivial z⟩
theorem L_bestDay (hl : g.1.stackTraces = false) (hp : LPs σ V nL nA nS kp nb) (hi : i < N) (hu : bd u i) (hx : scO g i) (K : nxt g N d i Q) : fs_R g (m_L_law N) d u 1565 (lls i v5 v6) [] ((S70, fr), σ, τ) Q := by
  obtain ⟨hT, hN, h9, -⟩ := id hp.1
  have hLL := hT.2.2.2.1
  have hAA := hT.2.2.2.2.1
  have hSS := hT.2.2.2.2.2.1
  have hC := hp.2.1
  have hM := S70_X.m
  have i0 : vp_in 0 1 := pk_in 0 1 (by decide) (by decide) (by decide)
  refine S_L_law_1565 (hu.B hi) ?_
  simp only [T_L_law_1565, lls, fi_scr, sc_1, sc_2, scI hx (show 1 < 6 by decide), scI hx (show 2 < 6 by decide), scC hx (show 1 < 6 by decide), scC hx (show 2 < 6 by decide), fi_h3, fi_h4, fi_const, fi_iload, fi_aload, fi_istore, fi_astore, fi_iinc, fi_bin, fi_div, fi_un, fi_dup, fi_dup2, fi_pop, fi_if, fi_cmp, fi_getf, fi_putf, fi_putr, fi_ald, fi_ast, fi_alen, fi_iret, fi_zret, fi_vret, fi_cut, fi_no, fi_s0, fi_s1, fi_s2, fi_s3, fi_s4, fi_v0, fi_v1, fi_v2, fi_v3, fi_v4, fi_v5, fi_n0, fi_n1, fi_n2, fi_mm, fi_stat, fi_alds, fi_tsw, List.getElem?_cons_zero, List.getElem?_cons_succ, List.set_cons_zero, List.set_cons_succ, List.length_cons, List.length_nil, Option.toList_some, Option.toList_none, List.cons_append, List.nil_append, Value.category, true_and, k_0, k_1, k_2, k_3, k_4, false_implies, true_implies, reduceCtorEq]
  by_cases q : inI (fs_Xs g (6 * i + 1)) nS
  · obtain ⟨a, ha, e⟩ := inI_nat q (by omega)
    rw [e]
    refine ⟨by decide, (h_bestDay S70_X S70_O (a_bestDay S70_X hT hN ha) hC).mono ?_⟩
    rintro r M' ⟨rfl, σ1, rfl, h1, s1⟩
    simp only [fi_const, fi_iload, fi_aload, fi_istore, fi_astore, fi_iinc, fi_bin, fi_div, fi_un, fi_dup, fi_dup2, fi_pop, fi_if, fi_cmp, fi_getf, fi_putf, fi_putr, fi_ald, fi_ast, fi_alen, fi_iret, fi_zret, fi_vret, fi_cut, fi_no, fi_s0, fi_s1, fi_s2, fi_s3, fi_s4, fi_v0, fi_v1, fi_v2, fi_v3, fi_v4, fi_v5, fi_n0, fi_n1, fi_n2, fi_mm, fi_stat, fi_alds, fi_tsw, List.getElem?_cons_zero, List.getElem?_cons_succ, List.set_cons_zero, List.set_cons_succ, List.length_cons, List.length_nil, Option.toList_some, Option.toList_none, List.cons_append, List.nil_append, Value.category, true_and, k_0, k_1, k_2, k_3, k_4, false_implies, true_implies, reduceCtorEq]
    refine ⟨by decide, ⟨_, hM.1⟩, (b_bestDay S70_X hT ha hN σ1 (hp.2.2.hi s1)).mono ?_⟩
    rintro r M' ⟨rfl, σ2, rfl, h2, s2, t2⟩
    simp only [fi_const, fi_iload, fi_aload, fi_istore, fi_astore, fi_iinc, fi_bin, fi_div, fi_un, fi_dup, fi_dup2, fi_pop, fi_if, fi_cmp, fi_getf, fi_putf, fi_putr, fi_ald, fi_ast, fi_alen, fi_iret, fi_zret, fi_vret, fi_cut, fi_no, fi_s0, fi_s1, fi_s2, fi_s3, fi_s4, fi_v0, fi_v1, fi_v2, fi_v3, fi_v4, fi_v5, fi_n0, fi_n1, fi_n2, fi_mm, fi_stat, fi_alds, fi_tsw, List.getElem?_cons_zero, List.getElem?_cons_succ, List.set_cons_zero, List.set_cons_succ, List.length_cons, List.length_nil, Option.toList_some, Option.toList_none, List.cons_append, List.nil_append, Value.category, true_and, k_0, k_1, k_2, k_3, k_4, false_implies, true_implies, reduceCtorEq]
    refine ⟨by decide, ⟨_, hM.1⟩, (c_thrown hM).mono ?_⟩
    rintro r M' ⟨rfl, rfl⟩
    rw [t2]
    simp only [fi_lald, fi_i2l, fi_lcmp, S70_O, i0, uL_eq, lgc, fi_const, fi_iload, fi_aload, fi_istore, fi_astore, fi_iinc, fi_bin, fi_div, fi_un, fi_dup, fi_dup2, fi_pop, fi_if, fi_cmp, fi_getf, fi_putf, fi_putr, fi_ald, fi_ast, fi_alen, fi_iret, fi_zret, fi_vret, fi_cut, fi_no, fi_s0, fi_s1, fi_s2, fi_s3, fi_s4, fi_v0, fi_v1, fi_v2, fi_v3, fi_v4, fi_v5, fi_n0, fi_n1, fi_n2, fi_mm, fi_stat, fi_alds, fi_tsw, List.getElem?_cons_zero, List.getElem?_cons_succ, List.set_cons_zero, List.set_cons_succ, List.length_cons, List.length_nil, Option.toList_some, Option.toList_none, List.cons_append, List.nil_append, Value.category, true_and, k_0, k_1, k_2, k_3, k_4, false_implies, true_implies, reduceCtorEq]
    exact ⟨⟨⟨K _ σ2 _ fr _ _ ⟨V, nL, nA, nS, kp, nb, hp.1, h1.low (fun a ha => s2 a (by omega)), h2⟩ hu.h, fun z => absurd trivial z⟩, fun z => absurd trivial z⟩, fun z => absurd trivial z⟩
  · refine ⟨by decide, (y_bestDay S70_X hl (by rw [hC.1.2.2]; exact inI_no q)).mono ?_⟩
    rintro r M' ⟨rfl, rfl⟩
    simp only [fi_const, fi_iload, fi_aload, fi_istore, fi_astore, fi_iinc, fi_bin, fi_div, fi_un, fi_dup, fi_dup2, fi_pop, fi_if, fi_cmp, fi_getf, fi_putf, fi_putr, fi_ald, fi_ast, fi_alen, fi_iret, fi_zret, fi_vret, fi_cut, fi_no, fi_s0, fi_s1, fi_s2, fi_s3, fi_s4, fi_v0, fi_v1, fi_v2, fi_v3, fi_v4, fi_v5, fi_n0, fi_n1, fi_n2, fi_mm, fi_stat, fi_alds, fi_tsw, List.getElem?_cons_zero, List.getElem?_cons_succ, List.set_cons_zero, List.set_cons_succ, List.length_cons, List.length_nil, Option.toList_some, Option.toList_none, List.cons_append, List.nil_append, Value.category, true_and, k_0, k_1, k_2, k_3, k_4, false_implies, true_implies, reduceCtorEq]
    refine ⟨by decide, ⟨_, hM.1⟩, (b_bestDay_x S70_X hT (q) hN σ hp.2.2).mono ?_⟩
    rintro r M' ⟨rfl, σ2, rfl, h2, s2, t2⟩
    simp only [fi_const, fi_iload, fi_aload, fi_istore, fi_astore, fi_iinc, fi_bin, fi_div, fi_un, fi_dup, fi_dup2, fi_pop, fi_if, fi_cmp, fi_getf, fi_putf, fi_putr, fi_ald, fi_ast, fi_alen, fi_iret, fi_zret, fi_vret, fi_cut, fi_no, fi_s0, fi_s1, fi_s2, fi_s3, fi_s4, fi_v0, fi_v1, fi_v2, fi_v3, fi_v4, fi_v5, fi_n0, fi_n1, fi_n2, fi_mm, fi_stat, fi_alds, fi_tsw, List.getElem?_cons_zero, List.getElem?_cons_succ, List.set_cons_zero, List.set_cons_succ, List.length_cons, List.length_nil, Option.toList_some, Option.toList_none, List.cons_append, List.nil_append, Value.category, true_and, k_0, k_1, k_2, k_3, k_4, false_implies, true_implies, reduceCtorEq]
    refine ⟨by decide, ⟨_, hM.1⟩, (c_thrown hM).mono ?_⟩
    rintro r M' ⟨rfl, rfl⟩
    rw [t2]
    simp only [fi_lald, fi_i2l, fi_lcmp, S70_O, fi_const, fi_iload, fi_aload, fi_istore, fi_astore, fi_iinc, fi_bin, fi_div, fi_un, fi_dup, fi_dup2, fi_pop, fi_if, fi_cmp, fi_getf, fi_putf, fi_putr, fi_ald, fi_ast, fi_alen, fi_iret, fi_zret, fi_vret, fi_cut, fi_no, fi_s0, fi_s1, fi_s2, fi_s3, fi_s4, fi_v0, fi_v1, fi_v2, fi_v3, fi_v4, fi_v5, fi_n0, fi_n1, fi_n2, fi_mm, fi_stat, fi_alds, fi_tsw, List.getElem?_cons_zero, List.getElem?_cons_succ, List.set_cons_zero, List.set_cons_succ, List.length_cons, List.length_nil, Option.toList_some, Option.toList_none, List.cons_append, List.nil_append, Value.category, true_and, k_0, k_1, k_2, k_3, k_4, false_implies, true_implies, reduceCtorEq]
    exact ⟨⟨fun z => absurd z (by decide), fun _ => K _ σ2 _ false _ _ ⟨V, nL, nA, nS, kp, nb, hp.1, hC.low (fun a ha => s2 a (by omega)), h2⟩ hu.h⟩, fun z => absurd trivial z⟩
end LC3
