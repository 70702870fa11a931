/-! ===== undo, both sides; put and take that change nothing, in the reference ===== -/
def unV (V : Vt) (k : Nat) : Vt := fun a b => if a = 4 then (if b < 18 then V 7 (18 * k + b) else V 4 b) else if a = 0 ∧ b = 9 then nI k else V a b
theorem unV_2 (V : Vt) (k : Nat) : unV V k 2 = V 2 := by funext b; simp [unV]
theorem unV_1 (V : Vt) (k : Nat) : unV V k 1 = V 1 := by funext b; simp [unV]
theorem unV_7 (V : Vt) (k : Nat) : unV V k 7 = V 7 := by funext b; simp [unV]
theorem unV_4 (V : Vt) (k : Nat) : unV V k 4 = fun b => if b < 18 then V 7 (18 * k + b) else V 4 b := by funext b; simp [unV]
theorem okV_un {V : Vt} {nL nA nS k nb : Nat} (h : okV V nL nA nS (k + 1) nb) : okV (unV V k) nL nA nS k nb := by
  obtain ⟨hT, h4, h9, hk, hP, h2, hb, hB⟩ := h
  have hn := hT.2.2.2.2.2.1
  have e2 := unV_2 V k
  refine ⟨okT_ch e2 hT, okN_ch e2 ?_, by simp [unV], by omega, fun i hi => ?_, by simp [unV]; exact h2, hb, fun i hi => by rw [unV_1]; exact hB i hi⟩
  · rw [unV_4]
    refine okN_congr hn (fun j hj => ?_) (hP k (by omega))
    simp only [fr_]
    rw [if_pos hj]
  · rw [unV_7]
    exact okN_ch e2 (hP i (by omega))
section PC6
variable {g : fs_G} {d : Nat} {S : List fs_Sh} {fr : Bool} {σ : Nat → Nat → Int32} {τ : Nat → Nat → Int64} {V : Vt} {nL nA nS kp nb : Nat}
theorem n_put_1 (hX : shX S) (hT : okT V nL nA nS) {x y : Int32} (hx : ¬ inI x nS) : askM g S fr τ V kp nb m_X9_put [.ref 56, .int x, .int y] (-1) 0 := by
  intro σ h
  have hM := hX.m
  have h1 := h.th 0
  refine fs_enterC (by decide) (by simp [fs_ok]) (Nat.le_of_ble_eq_true rfl) (fun d => S_X9_put_0 ?_)
  show T_X9_put_0 g d _ [.ref 56, .int x, .int y] [] _
  simp only [T_X9_put_0, fi_const, fi_iload, fi_aload, fi_istore, fi_astore, fi_iinc, fi_bin, fi_div, fi_un, fi_dup, fi_dup2, fi_pop, fi_if, fi_cmp, fi_getf, fi_putf, fi_putr, fi_ald, fi_ast, fi_alen, fi_iret, fi_zret, fi_vret, fi_cut, fi_no, fi_s0, fi_s1, fi_s2, fi_s3, fi_s4, fi_v0, fi_v1, fi_v2, fi_v3, fi_v4, fi_v5, fi_n0, fi_n1, fi_n2, fi_mm, fi_stat, fi_alds, fi_tsw, List.getElem?_cons_zero, List.getElem?_cons_succ, List.set_cons_zero, List.set_cons_succ, List.length_cons, List.length_nil, Option.toList_some, Option.toList_none, List.cons_append, List.nil_append, Value.category, true_and, k_0, k_1, k_2, k_3, k_4, false_implies, true_implies, reduceCtorEq]
  simp only [fi_const, fi_iload, fi_aload, fi_istore, fi_astore, fi_iinc, fi_bin, fi_div, fi_un, fi_dup, fi_dup2, fi_pop, fi_if, fi_cmp, fi_getf, fi_putf, fi_putr, fi_ald, fi_ast, fi_alen, fi_iret, fi_zret, fi_vret, fi_cut, fi_no, fi_s0, fi_s1, fi_s2, fi_s3, fi_s4, fi_v0, fi_v1, fi_v2, fi_v3, fi_v4, fi_v5, fi_n0, fi_n1, fi_n2, fi_mm, fi_stat, fi_alds, fi_tsw, List.getElem?_cons_zero, List.getElem?_cons_succ, List.set_cons_zero, List.set_cons_succ, List.length_cons, List.length_nil, Option.toList_some, Option.toList_none, List.cons_append, List.nil_append, Value.category, true_and, k_0, k_1, k_2, k_3, k_4, false_implies, true_implies, reduceCtorEq, hM.1]
  refine ⟨by decide, ⟨_, rfl⟩, (c_isSceneM hM (n := nS) (by rw [h1.1]; exact hT.2.2.1) x).mono ?_⟩
  rintro r M' ⟨rfl, rfl⟩
  rw [decide_eq_false hx]
  simp only [fi_const, fi_iload, fi_aload, fi_istore, fi_astore, fi_iinc, fi_bin, fi_div, fi_un, fi_dup, fi_dup2, fi_pop, fi_if, fi_cmp, fi_getf, fi_putf, fi_putr, fi_ald, fi_ast, fi_alen, fi_iret, fi_zret, fi_vret, fi_cut, fi_no, fi_s0, fi_s1, fi_s2, fi_s3, fi_s4, fi_v0, fi_v1, fi_v2, fi_v3, fi_v4, fi_v5, fi_n0, fi_n1, fi_n2, fi_mm, fi_stat, fi_alds, fi_tsw, List.getElem?_cons_zero, List.getElem?_cons_succ, List.set_cons_zero, List.set_cons_succ, List.length_cons, List.length_nil, Option.toList_some, Option.toList_none, List.cons_append, List.nil_append, Value.category, true_and, k_0, k_1, k_2, k_3, k_4, false_implies, true_implies, reduceCtorEq, bI_eq0, not_true, not_false_eq_true, and_true]
  exact ⟨_, rfl, h1, th_lo _, by simp [fs_u]⟩
theorem n_put_2 (hX : shX S) (hT : okT V nL nA nS) {x y : Int32} (hx : inI x nS) (hy : ¬ inI y 12) : askM g S fr τ V kp nb m_X9_put [.ref 56, .int x, .int y] (-2) 0 := by
  intro σ h
  have hM := hX.m
  have h1 := h.th 0
  refine fs_enterC (by decide) (by simp [fs_ok]) (Nat.le_of_ble_eq_true rfl) (fun d => S_X9_put_0 ?_)
  show T_X9_put_0 g d _ [.ref 56, .int x, .int y] [] _
  simp only [T_X9_put_0, fi_const, fi_iload, fi_aload, fi_istore, fi_astore, fi_iinc, fi_bin, fi_div, fi_un, fi_dup, fi_dup2, fi_pop, fi_if, fi_cmp, fi_getf, fi_putf, fi_putr, fi_ald, fi_ast, fi_alen, fi_iret, fi_zret, fi_vret, fi_cut, fi_no, fi_s0, fi_s1, fi_s2, fi_s3, fi_s4, fi_v0, fi_v1, fi_v2, fi_v3, fi_v4, fi_v5, fi_n0, fi_n1, fi_n2, fi_mm, fi_stat, fi_alds, fi_tsw, List.getElem?_cons_zero, List.getElem?_cons_succ, List.set_cons_zero, List.set_cons_succ, List.length_cons, List.length_nil, Option.toList_some, Option.toList_none, List.cons_append, List.nil_append, Value.category, true_and, k_0, k_1, k_2, k_3, k_4, false_implies, true_implies, reduceCtorEq]
  simp only [fi_const, fi_iload, fi_aload, fi_istore, fi_astore, fi_iinc, fi_bin, fi_div, fi_un, fi_dup, fi_dup2, fi_pop, fi_if, fi_cmp, fi_getf, fi_putf, fi_putr, fi_ald, fi_ast, fi_alen, fi_iret, fi_zret, fi_vret, fi_cut, fi_no, fi_s0, fi_s1, fi_s2, fi_s3, fi_s4, fi_v0, fi_v1, fi_v2, fi_v3, fi_v4, fi_v5, fi_n0, fi_n1, fi_n2, fi_mm, fi_stat, fi_alds, fi_tsw, List.getElem?_cons_zero, List.getElem?_cons_succ, List.set_cons_zero, List.set_cons_succ, List.length_cons, List.length_nil, Option.toList_some, Option.toList_none, List.cons_append, List.nil_append, Value.category, true_and, k_0, k_1, k_2, k_3, k_4, false_implies, true_implies, reduceCtorEq, hM.1]
  refine ⟨by decide, ⟨_, rfl⟩, (c_isSceneM hM (n := nS) (by rw [h1.1]; exact hT.2.2.1) x).mono ?_⟩
  rintro r M' ⟨rfl, rfl⟩
  rw [decide_eq_true hx]
  simp only [fi_const, fi_iload, fi_aload, fi_istore, fi_astore, fi_iinc, fi_bin, fi_div, fi_un, fi_dup, fi_dup2, fi_pop, fi_if, fi_cmp, fi_getf, fi_putf, fi_putr, fi_ald, fi_ast, fi_alen, fi_iret, fi_zret, fi_vret, fi_cut, fi_no, fi_s0, fi_s1, fi_s2, fi_s3, fi_s4, fi_v0, fi_v1, fi_v2, fi_v3, fi_v4, fi_v5, fi_n0, fi_n1, fi_n2, fi_mm, fi_stat, fi_alds, fi_tsw, List.getElem?_cons_zero, List.getElem?_cons_succ, List.set_cons_zero, List.set_cons_succ, List.length_cons, List.length_nil, Option.toList_some, Option.toList_none, List.cons_append, List.nil_append, Value.category, true_and, k_0, k_1, k_2, k_3, k_4, false_implies, true_implies, reduceCtorEq, bI_eq0, not_true, not_false_eq_true, and_true]
  refine ⟨by decide, (c_isDayM y).mono ?_⟩
  rintro r M' ⟨rfl, rfl⟩
  rw [decide_eq_false hy]
  simp only [fi_const, fi_iload, fi_aload, fi_istore, fi_astore, fi_iinc, fi_bin, fi_div, fi_un, fi_dup, fi_dup2, fi_pop, fi_if, fi_cmp, fi_getf, fi_putf, fi_putr, fi_ald, fi_ast, fi_alen, fi_iret, fi_zret, fi_vret, fi_cut, fi_no, fi_s0, fi_s1, fi_s2, fi_s3, fi_s4, fi_v0, fi_v1, fi_v2, fi_v3, fi_v4, fi_v5, fi_n0, fi_n1, fi_n2, fi_mm, fi_stat, fi_alds, fi_tsw, List.getElem?_cons_zero, List.getElem?_cons_succ, List.set_cons_zero, List.set_cons_succ, List.length_cons, List.length_nil, Option.toList_some, Option.toList_none, List.cons_append, List.nil_append, Value.category, true_and, k_0, k_1, k_2, k_3, k_4, false_implies, true_implies, reduceCtorEq, bI_eq0, not_true, not_false_eq_true, and_true]
  exact ⟨_, rfl, h1, th_lo _, by simp [fs_u]⟩
theorem n_put_5 (hX : shX S) (hT : okT V nL nA nS) {k e : Nat} (hk : k < nS) (he : e < 12) (h0 : ¬ reV V nS k e = 0) : askM g S fr τ V kp nb m_X9_put [.ref 56, .int (nI k), .int (nI e)] (-5) 0 := by
  intro σ h
  have hn := hT.2.2.2.2.2.1
  have hM := hX.m
  have h1 := h.th 0
  refine fs_enterC (by decide) (by simp [fs_ok]) (Nat.le_of_ble_eq_true rfl) (fun d => S_X9_put_0 ?_)
  show T_X9_put_0 g d _ [.ref 56, .int (nI k), .int (nI e)] [] _
  simp only [T_X9_put_0, fi_const, fi_iload, fi_aload, fi_istore, fi_astore, fi_iinc, fi_bin, fi_div, fi_un, fi_dup, fi_dup2, fi_pop, fi_if, fi_cmp, fi_getf, fi_putf, fi_putr, fi_ald, fi_ast, fi_alen, fi_iret, fi_zret, fi_vret, fi_cut, fi_no, fi_s0, fi_s1, fi_s2, fi_s3, fi_s4, fi_v0, fi_v1, fi_v2, fi_v3, fi_v4, fi_v5, fi_n0, fi_n1, fi_n2, fi_mm, fi_stat, fi_alds, fi_tsw, List.getElem?_cons_zero, List.getElem?_cons_succ, List.set_cons_zero, List.set_cons_succ, List.length_cons, List.length_nil, Option.toList_some, Option.toList_none, List.cons_append, List.nil_append, Value.category, true_and, k_0, k_1, k_2, k_3, k_4, false_implies, true_implies, reduceCtorEq]
  simp only [fi_const, fi_iload, fi_aload, fi_istore, fi_astore, fi_iinc, fi_bin, fi_div, fi_un, fi_dup, fi_dup2, fi_pop, fi_if, fi_cmp, fi_getf, fi_putf, fi_putr, fi_ald, fi_ast, fi_alen, fi_iret, fi_zret, fi_vret, fi_cut, fi_no, fi_s0, fi_s1, fi_s2, fi_s3, fi_s4, fi_v0, fi_v1, fi_v2, fi_v3, fi_v4, fi_v5, fi_n0, fi_n1, fi_n2, fi_mm, fi_stat, fi_alds, fi_tsw, List.getElem?_cons_zero, List.getElem?_cons_succ, List.set_cons_zero, List.set_cons_succ, List.length_cons, List.length_nil, Option.toList_some, Option.toList_none, List.cons_append, List.nil_append, Value.category, true_and, k_0, k_1, k_2, k_3, k_4, false_implies, true_implies, reduceCtorEq, hM.1]
  refine ⟨by decide, ⟨_, rfl⟩, (c_isSceneM hM (n := nS) (by rw [h1.1]; exact hT.2.2.1) (nI k)).mono ?_⟩
  rintro r M' ⟨rfl, rfl⟩
  rw [decide_eq_true (inI_of hk (by omega))]
  simp only [fi_const, fi_iload, fi_aload, fi_istore, fi_astore, fi_iinc, fi_bin, fi_div, fi_un, fi_dup, fi_dup2, fi_pop, fi_if, fi_cmp, fi_getf, fi_putf, fi_putr, fi_ald, fi_ast, fi_alen, fi_iret, fi_zret, fi_vret, fi_cut, fi_no, fi_s0, fi_s1, fi_s2, fi_s3, fi_s4, fi_v0, fi_v1, fi_v2, fi_v3, fi_v4, fi_v5, fi_n0, fi_n1, fi_n2, fi_mm, fi_stat, fi_alds, fi_tsw, List.getElem?_cons_zero, List.getElem?_cons_succ, List.set_cons_zero, List.set_cons_succ, List.length_cons, List.length_nil, Option.toList_some, Option.toList_none, List.cons_append, List.nil_append, Value.category, true_and, k_0, k_1, k_2, k_3, k_4, false_implies, true_implies, reduceCtorEq, bI_eq0, not_true, not_false_eq_true]
  refine ⟨by decide, (c_isDayM (nI e)).mono ?_⟩
  rintro r M' ⟨rfl, rfl⟩
  rw [decide_eq_true (inI_of he (by omega))]
  simp only [fi_const, fi_iload, fi_aload, fi_istore, fi_astore, fi_iinc, fi_bin, fi_div, fi_un, fi_dup, fi_dup2, fi_pop, fi_if, fi_cmp, fi_getf, fi_putf, fi_putr, fi_ald, fi_ast, fi_alen, fi_iret, fi_zret, fi_vret, fi_cut, fi_no, fi_s0, fi_s1, fi_s2, fi_s3, fi_s4, fi_v0, fi_v1, fi_v2, fi_v3, fi_v4, fi_v5, fi_n0, fi_n1, fi_n2, fi_mm, fi_stat, fi_alds, fi_tsw, List.getElem?_cons_zero, List.getElem?_cons_succ, List.set_cons_zero, List.set_cons_succ, List.length_cons, List.length_nil, Option.toList_some, Option.toList_none, List.cons_append, List.nil_append, Value.category, true_and, k_0, k_1, k_2, k_3, k_4, false_implies, true_implies, reduceCtorEq, bI_eq0, not_true, not_false_eq_true]
  refine ⟨by decide, ⟨_, hM.1⟩, (v_reason hM hT h1 hk).mono ?_⟩
  rintro r M' ⟨rfl, rfl⟩
  simp only [fi_const, fi_iload, fi_aload, fi_istore, fi_astore, fi_iinc, fi_bin, fi_div, fi_un, fi_dup, fi_dup2, fi_pop, fi_if, fi_cmp, fi_getf, fi_putf, fi_putr, fi_ald, fi_ast, fi_alen, fi_iret, fi_zret, fi_vret, fi_cut, fi_no, fi_s0, fi_s1, fi_s2, fi_s3, fi_s4, fi_v0, fi_v1, fi_v2, fi_v3, fi_v4, fi_v5, fi_n0, fi_n1, fi_n2, fi_mm, fi_stat, fi_alds, fi_tsw, List.getElem?_cons_zero, List.getElem?_cons_succ, List.set_cons_zero, List.set_cons_succ, List.length_cons, List.length_nil, Option.toList_some, Option.toList_none, List.cons_append, List.nil_append, Value.category, true_and, k_0, k_1, k_2, k_3, k_4, false_implies, true_implies, reduceCtorEq]
  exact ⟨fun z => absurd z h0, fun _ => ⟨_, rfl, h1, th_lo _, by simp [fs_u]⟩⟩
theorem n_take_1 (hX : shX S) (hT : okT V nL nA nS) {x : Int32} (hx : ¬ (inI x nS ∧ ¬ v_dy V x.toNatClampNeg = -1)) : askM g S fr τ V kp nb m_X9_take [.ref 56, .int x] (-1) 0 := by
  intro σ h
  have hn := hT.2.2.2.2.2.1
  have hM := hX.m
  have h1 := h.th 0
  refine fs_enterC (by decide) (by simp [fs_ok]) (Nat.le_of_ble_eq_true rfl) (fun d => S_X9_take_0 ?_)
  show T_X9_take_0 g d _ [.ref 56, .int x] [] _
  simp only [T_X9_take_0, fi_const, fi_iload, fi_aload, fi_istore, fi_astore, fi_iinc, fi_bin, fi_div, fi_un, fi_dup, fi_dup2, fi_pop, fi_if, fi_cmp, fi_getf, fi_putf, fi_putr, fi_ald, fi_ast, fi_alen, fi_iret, fi_zret, fi_vret, fi_cut, fi_no, fi_s0, fi_s1, fi_s2, fi_s3, fi_s4, fi_v0, fi_v1, fi_v2, fi_v3, fi_v4, fi_v5, fi_n0, fi_n1, fi_n2, fi_mm, fi_stat, fi_alds, fi_tsw, List.getElem?_cons_zero, List.getElem?_cons_succ, List.set_cons_zero, List.set_cons_succ, List.length_cons, List.length_nil, Option.toList_some, Option.toList_none, List.cons_append, List.nil_append, Value.category, true_and, k_0, k_1, k_2, k_3, k_4, false_implies, true_implies, reduceCtorEq]
  simp only [fi_const, fi_iload, fi_aload, fi_istore, fi_astore, fi_iinc, fi_bin, fi_div, fi_un, fi_dup, fi_dup2, fi_pop, fi_if, fi_cmp, fi_getf, fi_putf, fi_putr, fi_ald, fi_ast, fi_alen, fi_iret, fi_zret, fi_vret, fi_cut, fi_no, fi_s0, fi_s1, fi_s2, fi_s3, fi_s4, fi_v0, fi_v1, fi_v2, fi_v3, fi_v4, fi_v5, fi_n0, fi_n1, fi_n2, fi_mm, fi_stat, fi_alds, fi_tsw, List.getElem?_cons_zero, List.getElem?_cons_succ, List.set_cons_zero, List.set_cons_succ, List.length_cons, List.length_nil, Option.toList_some, Option.toList_none, List.cons_append, List.nil_append, Value.category, true_and, k_0, k_1, k_2, k_3, k_4, false_implies, true_implies, reduceCtorEq, hM.1]
  refine ⟨by decide, ⟨_, rfl⟩, (c_isSceneM hM (n := nS) (by rw [h1.1]; exact hT.2.2.1) x).mono ?_⟩
  rintro r M' ⟨rfl, rfl⟩
  by_cases q : inI x nS
  · rw [decide_eq_true q]
    obtain ⟨k, hk, rfl⟩ := inI_nat q (by omega)
    rw [nI_clamp (by omega)] at hx
    simp only [fi_const, fi_iload, fi_aload, fi_istore, fi_astore, fi_iinc, fi_bin, fi_div, fi_un, fi_dup, fi_dup2, fi_pop, fi_if, fi_cmp, fi_getf, fi_putf, fi_putr, fi_ald, fi_ast, fi_alen, fi_iret, fi_zret, fi_vret, fi_cut, fi_no, fi_s0, fi_s1, fi_s2, fi_s3, fi_s4, fi_v0, fi_v1, fi_v2, fi_v3, fi_v4, fi_v5, fi_n0, fi_n1, fi_n2, fi_mm, fi_stat, fi_alds, fi_tsw, List.getElem?_cons_zero, List.getElem?_cons_succ, List.set_cons_zero, List.set_cons_succ, List.length_cons, List.length_nil, Option.toList_some, Option.toList_none, List.cons_append, List.nil_append, Value.category, true_and, k_0, k_1, k_2, k_3, k_4, false_implies, true_implies, reduceCtorEq, bI_eq0, not_true, not_false_eq_true, hM.1, hM.2.2.2.2.1, li_4, nI_clamp (show 4 + k < 2 ^ 31 by omega), show 56 + 4 = 60 from rfl, h1.2.1]
    refine ⟨vp_in_nI (by omega) (by decide), fun _ => ⟨_, rfl, h1, th_lo _, by simp [fs_u]⟩, fun z => absurd ⟨q, z⟩ hx⟩
  · rw [decide_eq_false q]
    simp only [fi_const, fi_iload, fi_aload, fi_istore, fi_astore, fi_iinc, fi_bin, fi_div, fi_un, fi_dup, fi_dup2, fi_pop, fi_if, fi_cmp, fi_getf, fi_putf, fi_putr, fi_ald, fi_ast, fi_alen, fi_iret, fi_zret, fi_vret, fi_cut, fi_no, fi_s0, fi_s1, fi_s2, fi_s3, fi_s4, fi_v0, fi_v1, fi_v2, fi_v3, fi_v4, fi_v5, fi_n0, fi_n1, fi_n2, fi_mm, fi_stat, fi_alds, fi_tsw, List.getElem?_cons_zero, List.getElem?_cons_succ, List.set_cons_zero, List.set_cons_succ, List.length_cons, List.length_nil, Option.toList_some, Option.toList_none, List.cons_append, List.nil_append, Value.category, true_and, k_0, k_1, k_2, k_3, k_4, false_implies, true_implies, reduceCtorEq, bI_eq0, not_true, not_false_eq_true, and_true]
    exact ⟨_, rfl, h1, th_lo _, by simp [fs_u]⟩
theorem l_undoM (hM : shM S 56) {k : Nat} (hk : k ≤ 11) : ∀ n j σ, j + n = 18 → σ 56 9 = nI k → fs_R g m_X9_undo d (0, 0) 26 [.ref 56, .int (nI j)] [] ((S, fr), σ, τ) (fun r M' => r = some (.int (nI k)) ∧ ∃ σ', M' = ((S, fr), σ', τ) ∧ (∀ a, a ≠ 60 → σ' a = σ a) ∧ ∀ b, σ' 60 b = if j ≤ b ∧ b < 18 then σ 63 (18 * k + b) else σ 60 b)
  | 0, j, σ, hj, h9 => by
    refine S_X9_undo_26 ?_
    simp only [T_X9_undo_26, fi_const, fi_iload, fi_aload, fi_istore, fi_astore, fi_iinc, fi_bin, fi_div, fi_un, fi_dup, fi_dup2, fi_pop, fi_if, fi_cmp, fi_getf, fi_putf, fi_putr, fi_ald, fi_ast, fi_alen, fi_iret, fi_zret, fi_vret, fi_cut, fi_no, fi_s0, fi_s1, fi_s2, fi_s3, fi_s4, fi_v0, fi_v1, fi_v2, fi_v3, fi_v4, fi_v5, fi_n0, fi_n1, fi_n2, fi_mm, fi_stat, fi_alds, fi_tsw, List.getElem?_cons_zero, List.getElem?_cons_succ, List.set_cons_zero, List.set_cons_succ, List.length_cons, List.length_nil, Option.toList_some, Option.toList_none, List.cons_append, List.nil_append, Value.category, true_and, k_0, k_1, k_2, k_3, k_4, false_implies, true_implies, reduceCtorEq, hM.1, h9]
    refine pk_le 18 j (fun _ => ?_) (fun z => by omega)
    exact ⟨σ, rfl, fun _ _ => rfl, fun b => by rw [if_neg (by omega)]⟩
  | n + 1, j, σ, hj, h9 => by
    have e18 : (18 : Int32) * nI k = nI (18 * k) := pk_mul 18 k
    refine S_X9_undo_26 ?_
    simp only [T_X9_undo_26, fi_const, fi_iload, fi_aload, fi_istore, fi_astore, fi_iinc, fi_bin, fi_div, fi_un, fi_dup, fi_dup2, fi_pop, fi_if, fi_cmp, fi_getf, fi_putf, fi_putr, fi_ald, fi_ast, fi_alen, fi_iret, fi_zret, fi_vret, fi_cut, fi_no, fi_s0, fi_s1, fi_s2, fi_s3, fi_s4, fi_v0, fi_v1, fi_v2, fi_v3, fi_v4, fi_v5, fi_n0, fi_n1, fi_n2, fi_mm, fi_stat, fi_alds, fi_tsw, List.getElem?_cons_zero, List.getElem?_cons_succ, List.set_cons_zero, List.set_cons_succ, List.length_cons, List.length_nil, Option.toList_some, Option.toList_none, List.cons_append, List.nil_append, Value.category, true_and, k_0, k_1, k_2, k_3, k_4, false_implies, true_implies, reduceCtorEq, hM.1, h9, e18, nI_add, hM.2.2.2.2.1, hM.2.2.2.2.2.2.2.1, nI_clamp (show j < 2 ^ 31 by omega), nI_clamp (show 18 * k + j < 2 ^ 31 by omega), show 56 + 4 = 60 from rfl, show 56 + 7 = 63 from rfl, nI_1]
    refine pk_le 18 j (fun z => by omega) (fun _ => ⟨vp_in_nI (by omega) (by decide), vp_in_nI (by omega) (by decide), ?_⟩)
    refine fs_R_mono (l_undoM hM hk n (j + 1) (fs_u σ 60 j (σ 63 (18 * k + j))) (by omega) (by rw [fs_u_ne (by decide)]; exact h9)) ?_
    rintro r M' ⟨rfl, σ', rfl, hs, s2⟩
    refine ⟨rfl, σ', rfl, fun a h1 => ?_, fun b => ?_⟩
    · rw [hs a h1, fs_u_ne h1]
    · rw [s2 b, fs_u_ne (show 63 ≠ 60 by decide)]
      by_cases q : b = j
      · rw [if_neg (by omega), if_pos (by omega), q, u_eq]
      · by_cases q2 : j + 1 ≤ b ∧ b < 18
        · rw [if_pos q2, if_pos (by omega)]
        · rw [if_neg q2, if_neg (by omega)]
          simp only [fs_u]
          rw [if_neg (fun z => q z.2)]
theorem n_undo (hX : shX S) {k : Nat} (hV : okV V nL nA nS (k + 1) nb) : chgM g S fr τ V (k + 1) nb m_X9_undo [.ref 56] (nI k) (unV V k) k := by
  intro σ h
  obtain ⟨hT, hN, h9, hkp, -⟩ := id hV
  have hM := hX.m
  have h1 := h.th 0
  have e9 : fs_u σ 56 0 0 56 9 = nI (k + 1) := h1.2.2.2.2.2.1.trans h9
  refine fs_enterC (by decide) (by simp [fs_ok]) (Nat.le_of_ble_eq_true rfl) (fun d => S_X9_undo_0 ?_)
  show T_X9_undo_0 g d _ [.ref 56, .null] [] _
  simp only [T_X9_undo_0, fi_const, fi_iload, fi_aload, fi_istore, fi_astore, fi_iinc, fi_bin, fi_div, fi_un, fi_dup, fi_dup2, fi_pop, fi_if, fi_cmp, fi_getf, fi_putf, fi_putr, fi_ald, fi_ast, fi_alen, fi_iret, fi_zret, fi_vret, fi_cut, fi_no, fi_s0, fi_s1, fi_s2, fi_s3, fi_s4, fi_v0, fi_v1, fi_v2, fi_v3, fi_v4, fi_v5, fi_n0, fi_n1, fi_n2, fi_mm, fi_stat, fi_alds, fi_tsw, List.getElem?_cons_zero, List.getElem?_cons_succ, List.set_cons_zero, List.set_cons_succ, List.length_cons, List.length_nil, Option.toList_some, Option.toList_none, List.cons_append, List.nil_append, Value.category, true_and, k_0, k_1, k_2, k_3, k_4, false_implies, true_implies, reduceCtorEq]
  simp only [fi_const, fi_iload, fi_aload, fi_istore, fi_astore, fi_iinc, fi_bin, fi_div, fi_un, fi_dup, fi_dup2, fi_pop, fi_if, fi_cmp, fi_getf, fi_putf, fi_putr, fi_ald, fi_ast, fi_alen, fi_iret, fi_zret, fi_vret, fi_cut, fi_no, fi_s0, fi_s1, fi_s2, fi_s3, fi_s4, fi_v0, fi_v1, fi_v2, fi_v3, fi_v4, fi_v5, fi_n0, fi_n1, fi_n2, fi_mm, fi_stat, fi_alds, fi_tsw, List.getElem?_cons_zero, List.getElem?_cons_succ, List.set_cons_zero, List.set_cons_succ, List.length_cons, List.length_nil, Option.toList_some, Option.toList_none, List.cons_append, List.nil_append, Value.category, true_and, k_0, k_1, k_2, k_3, k_4, false_implies, true_implies, reduceCtorEq, hM.1, e9, nI_pred]
  refine ⟨fun z => absurd z (nI_ne0 (by omega) (by omega)), fun _ => ?_⟩
  refine fs_R_mono (l_undoM hM (k := k) (by omega) 18 0 (fs_u (fs_u σ 56 0 0) 56 9 (nI k)) rfl (u_eq ..)) ?_
  rintro r M' ⟨rfl, σ', rfl, hs, s2⟩
  have c : ∀ a, a ≠ 60 → a ≠ 56 → σ' a = σ a := fun a ha hb => by rw [hs a ha, fs_u_ne hb, fs_u_ne hb]
  obtain ⟨h1, h2, h3, h4, h5, h6, h7⟩ := h
  refine ⟨rfl, σ', rfl, ⟨?_, ?_, fun b hb => ?_, fun i hi => ?_, ?_, ?_, ?_⟩, fun a ha => c a (by omega) (by omega), ?_⟩
  · rw [c 58 (by decide) (by decide), unV_2]; exact h1
  · rw [unV_4]
    funext b
    rw [s2 b]
    rw [fs_u_ne (show 63 ≠ 56 by decide), fs_u_ne (show 63 ≠ 56 by decide), fs_u_ne (show 60 ≠ 56 by decide), fs_u_ne (show 60 ≠ 56 by decide), h2]
    by_cases q : b < 18
    · rw [if_pos ⟨by omega, q⟩, if_pos q, h3 _ (by omega)]
    · rw [if_neg (fun z => q z.2), if_neg q]
  · rw [c 63 (by decide) (by decide), unV_7]; exact h3 b (by omega)
  · rw [c 57 (by decide) (by decide), unV_1]; exact h4 i hi
  · rw [hs 56 (by decide)]; simpa [fs_u, unV] using h5
  · rw [hs 56 (by decide)]; simp [fs_u, unV]
  · rw [hs 56 (by decide)]; simpa [fs_u, unV] using h7
  · rw [hs 56 (by decide)]; simp [fs_u]
theorem n_undo_0 (hX : shX S) (h9 : V 0 9 = nI 0) : askM g S fr τ V 0 nb m_X9_undo [.ref 56] (-1) 0 := by
  intro σ h
  have hM := hX.m
  have h1 := h.th 0
  have e9 : fs_u σ 56 0 0 56 9 = 0 := h1.2.2.2.2.2.1.trans h9
  refine fs_enterC (by decide) (by simp [fs_ok]) (Nat.le_of_ble_eq_true rfl) (fun d => S_X9_undo_0 ?_)
  show T_X9_undo_0 g d _ [.ref 56, .null] [] _
  simp only [T_X9_undo_0, fi_const, fi_iload, fi_aload, fi_istore, fi_astore, fi_iinc, fi_bin, fi_div, fi_un, fi_dup, fi_dup2, fi_pop, fi_if, fi_cmp, fi_getf, fi_putf, fi_putr, fi_ald, fi_ast, fi_alen, fi_iret, fi_zret, fi_vret, fi_cut, fi_no, fi_s0, fi_s1, fi_s2, fi_s3, fi_s4, fi_v0, fi_v1, fi_v2, fi_v3, fi_v4, fi_v5, fi_n0, fi_n1, fi_n2, fi_mm, fi_stat, fi_alds, fi_tsw, List.getElem?_cons_zero, List.getElem?_cons_succ, List.set_cons_zero, List.set_cons_succ, List.length_cons, List.length_nil, Option.toList_some, Option.toList_none, List.cons_append, List.nil_append, Value.category, true_and, k_0, k_1, k_2, k_3, k_4, false_implies, true_implies, reduceCtorEq]
  simp only [fi_const, fi_iload, fi_aload, fi_istore, fi_astore, fi_iinc, fi_bin, fi_div, fi_un, fi_dup, fi_dup2, fi_pop, fi_if, fi_cmp, fi_getf, fi_putf, fi_putr, fi_ald, fi_ast, fi_alen, fi_iret, fi_zret, fi_vret, fi_cut, fi_no, fi_s0, fi_s1, fi_s2, fi_s3, fi_s4, fi_v0, fi_v1, fi_v2, fi_v3, fi_v4, fi_v5, fi_n0, fi_n1, fi_n2, fi_mm, fi_stat, fi_alds, fi_tsw, List.getElem?_cons_zero, List.getElem?_cons_succ, List.set_cons_zero, List.set_cons_succ, List.length_cons, List.length_nil, Option.toList_some, Option.toList_none, List.cons_append, List.nil_append, Value.category, true_and, k_0, k_1, k_2, k_3, k_4, false_implies, true_implies, reduceCtorEq, hM.1, e9]
  refine ⟨⟨_, rfl, h1, th_lo _, by simp [fs_u]⟩, fun z => absurd trivial z⟩
end PC6
