/-! ===== questions to the reference: more ===== -/
section PN5
variable {g : fs_G} {d : Nat} {S : List fs_Sh} {fr : Bool} {σ : Nat → Nat → Int32} {τ : Nat → Nat → Int64} {V : Vt} {nL nA nS kp nb : Nat}
theorem b_bestDay (hX : shX S) (hT : okT V nL nA nS) {k : Nat} (hk : k < nS) (hN : okN V nS (V 4)) : askM g S fr τ V kp nb m_X9_bestDay [.ref 56, .int (nI k)] (bdF (reV V nS k) (cwW V nA nS k) 12 0 (-1) 0) 0 := by
  intro σ h
  have hM := hX.m
  have hL := hT.2.2.2.1
  have hA := hT.2.2.2.2.1
  have hn := hT.2.2.2.2.2.1
  refine fs_enterC (by decide) (by simp [fs_ok]) (Nat.le_of_ble_eq_true rfl) (fun d => S_X9_bestDay_0 ?_)
  show T_X9_bestDay_0 g d _ [.ref 56, .int (nI k), .null, .null, .null, .null] [] _
  simp only [T_X9_bestDay_0, fi_const, fi_iload, fi_aload, fi_istore, fi_astore, fi_iinc, fi_bin, fi_div, fi_un, fi_dup, fi_dup2, fi_pop, fi_if, fi_cmp, fi_getf, fi_putf, fi_putr, fi_ald, fi_ast, fi_alen, fi_iret, fi_zret, fi_vret, fi_cut, fi_no, fi_s0, fi_s1, fi_s2, fi_s3, fi_s4, fi_v0, fi_v1, fi_v2, fi_v3, fi_v4, fi_v5, fi_n0, fi_n1, fi_n2, fi_mm, fi_stat, fi_alds, fi_tsw, List.getElem?_cons_zero, List.getElem?_cons_succ, List.set_cons_zero, List.set_cons_succ, List.length_cons, List.length_nil, Option.toList_some, Option.toList_none, List.cons_append, List.nil_append, Value.category, true_and, k_0, k_1, k_2, k_3, k_4, false_implies, true_implies, reduceCtorEq]
  refine ⟨by decide, ⟨_, hM.1⟩, (c_isSceneM hM (n := nS) (by rw [h.1]; exact hT.2.2.1) (nI k)).mono ?_⟩
  rintro r M' ⟨rfl, rfl⟩
  rw [decide_eq_true (inI_of hk (by omega))]
  simp only [fi_const, fi_iload, fi_aload, fi_istore, fi_astore, fi_iinc, fi_bin, fi_div, fi_un, fi_dup, fi_dup2, fi_pop, fi_if, fi_cmp, fi_getf, fi_putf, fi_putr, fi_ald, fi_ast, fi_alen, fi_iret, fi_zret, fi_vret, fi_cut, fi_no, fi_s0, fi_s1, fi_s2, fi_s3, fi_s4, fi_v0, fi_v1, fi_v2, fi_v3, fi_v4, fi_v5, fi_n0, fi_n1, fi_n2, fi_mm, fi_stat, fi_alds, fi_tsw, List.getElem?_cons_zero, List.getElem?_cons_succ, List.set_cons_zero, List.set_cons_succ, List.length_cons, List.length_nil, Option.toList_some, Option.toList_none, List.cons_append, List.nil_append, Value.category, true_and, k_0, k_1, k_2, k_3, k_4, false_implies, true_implies, reduceCtorEq]
  refine ⟨by decide, ⟨_, hM.1⟩, (c_checks hM true).mono ?_⟩
  rintro r M' ⟨rfl, rfl⟩
  have h1 := h.th (bI !true)
  simp only [fi_const, fi_iload, fi_aload, fi_istore, fi_astore, fi_iinc, fi_bin, fi_div, fi_un, fi_dup, fi_dup2, fi_pop, fi_if, fi_cmp, fi_getf, fi_putf, fi_putr, fi_ald, fi_ast, fi_alen, fi_iret, fi_zret, fi_vret, fi_cut, fi_no, fi_s0, fi_s1, fi_s2, fi_s3, fi_s4, fi_v0, fi_v1, fi_v2, fi_v3, fi_v4, fi_v5, fi_n0, fi_n1, fi_n2, fi_mm, fi_stat, fi_alds, fi_tsw, List.getElem?_cons_zero, List.getElem?_cons_succ, List.set_cons_zero, List.set_cons_succ, List.length_cons, List.length_nil, Option.toList_some, Option.toList_none, List.cons_append, List.nil_append, Value.category, true_and, k_0, k_1, k_2, k_3, k_4, false_implies, true_implies, reduceCtorEq, bI_eq0, not_true, not_false_eq_true]
  refine fs_R_mono (l_bestDayM hM hT hN hk 12 0 (-1) 0 _ _ rfl h1) ?_
  rintro r M' ⟨rfl, σ2, rfl, hs⟩
  obtain ⟨h2, hs2, g0⟩ := cs_IM h1 hs
  exact ⟨rfl, σ2, rfl, h2, fun b hb => (hs2 b hb).trans (th_lo _ b hb), by rw [g0]; simp [fs_u, bI]⟩
theorem b_bestDay_x (hX : shX S) (hT : okT V nL nA nS) {x : Int32} (hx : ¬ inI x nS) (hN : okN V nS (V 4)) : askM g S fr τ V kp nb m_X9_bestDay [.ref 56, .int x] (0) 1 := by
  intro σ h
  have hM := hX.m
  have hL := hT.2.2.2.1
  have hA := hT.2.2.2.2.1
  have hn := hT.2.2.2.2.2.1
  refine fs_enterC (by decide) (by simp [fs_ok]) (Nat.le_of_ble_eq_true rfl) (fun d => S_X9_bestDay_0 ?_)
  show T_X9_bestDay_0 g d _ [.ref 56, .int x, .null, .null, .null, .null] [] _
  simp only [T_X9_bestDay_0, fi_const, fi_iload, fi_aload, fi_istore, fi_astore, fi_iinc, fi_bin, fi_div, fi_un, fi_dup, fi_dup2, fi_pop, fi_if, fi_cmp, fi_getf, fi_putf, fi_putr, fi_ald, fi_ast, fi_alen, fi_iret, fi_zret, fi_vret, fi_cut, fi_no, fi_s0, fi_s1, fi_s2, fi_s3, fi_s4, fi_v0, fi_v1, fi_v2, fi_v3, fi_v4, fi_v5, fi_n0, fi_n1, fi_n2, fi_mm, fi_stat, fi_alds, fi_tsw, List.getElem?_cons_zero, List.getElem?_cons_succ, List.set_cons_zero, List.set_cons_succ, List.length_cons, List.length_nil, Option.toList_some, Option.toList_none, List.cons_append, List.nil_append, Value.category, true_and, k_0, k_1, k_2, k_3, k_4, false_implies, true_implies, reduceCtorEq]
  refine ⟨by decide, ⟨_, hM.1⟩, (c_isSceneM hM (n := nS) (by rw [h.1]; exact hT.2.2.1) x).mono ?_⟩
  rintro r M' ⟨rfl, rfl⟩
  rw [decide_eq_false hx]
  simp only [fi_const, fi_iload, fi_aload, fi_istore, fi_astore, fi_iinc, fi_bin, fi_div, fi_un, fi_dup, fi_dup2, fi_pop, fi_if, fi_cmp, fi_getf, fi_putf, fi_putr, fi_ald, fi_ast, fi_alen, fi_iret, fi_zret, fi_vret, fi_cut, fi_no, fi_s0, fi_s1, fi_s2, fi_s3, fi_s4, fi_v0, fi_v1, fi_v2, fi_v3, fi_v4, fi_v5, fi_n0, fi_n1, fi_n2, fi_mm, fi_stat, fi_alds, fi_tsw, List.getElem?_cons_zero, List.getElem?_cons_succ, List.set_cons_zero, List.set_cons_succ, List.length_cons, List.length_nil, Option.toList_some, Option.toList_none, List.cons_append, List.nil_append, Value.category, true_and, k_0, k_1, k_2, k_3, k_4, false_implies, true_implies, reduceCtorEq]
  refine ⟨by decide, ⟨_, hM.1⟩, (c_checks hM false).mono ?_⟩
  rintro r M' ⟨rfl, rfl⟩
  simp only [fi_const, fi_iload, fi_aload, fi_istore, fi_astore, fi_iinc, fi_bin, fi_div, fi_un, fi_dup, fi_dup2, fi_pop, fi_if, fi_cmp, fi_getf, fi_putf, fi_putr, fi_ald, fi_ast, fi_alen, fi_iret, fi_zret, fi_vret, fi_cut, fi_no, fi_s0, fi_s1, fi_s2, fi_s3, fi_s4, fi_v0, fi_v1, fi_v2, fi_v3, fi_v4, fi_v5, fi_n0, fi_n1, fi_n2, fi_mm, fi_stat, fi_alds, fi_tsw, List.getElem?_cons_zero, List.getElem?_cons_succ, List.set_cons_zero, List.set_cons_succ, List.length_cons, List.length_nil, Option.toList_some, Option.toList_none, List.cons_append, List.nil_append, Value.category, true_and, k_0, k_1, k_2, k_3, k_4, false_implies, true_implies, reduceCtorEq, bI_eq0, not_true, not_false_eq_true, and_true]
  exact ⟨_, rfl, h.th _, th_lo _, by simp [fs_u, bI]⟩
theorem l_holdM (hM : shM S 56) (hT : okT V nL nA nS) : ∀ n k s σ, k + n = nA → IM σ V kp nb → (∀ a j, j < 12 → wkF (σ 64) a j = v_wk V nS a j) → fs_R g m_X9_holdingCost d (0, 0) 13 [.ref 56, .int s, .int (nI k)] [] ((S, fr), σ, τ) (fun r M' => r = some (.int (paF (fun a => heM (V 2 (18 + a)) (V 4 2) (V 4 3) (v_wk V nS a)) n k s)) ∧ ∃ σ', M' = ((S, fr), σ', τ) ∧ IM σ' V kp nb ∧ (∀ a, a < 56 ∨ 69 ≤ a → σ' a = σ a) ∧ σ' 56 0 = σ 56 0)
  | 0, k, s, σ, hk, h, hw => by
    have hA := hT.2.2.2.2.1
    refine S_X9_holdingCost_13 ?_
    simp only [T_X9_holdingCost_13, fi_const, fi_iload, fi_aload, fi_istore, fi_astore, fi_iinc, fi_bin, fi_div, fi_un, fi_dup, fi_dup2, fi_pop, fi_if, fi_cmp, fi_getf, fi_putf, fi_putr, fi_ald, fi_ast, fi_alen, fi_iret, fi_zret, fi_vret, fi_cut, fi_no, fi_s0, fi_s1, fi_s2, fi_s3, fi_s4, fi_v0, fi_v1, fi_v2, fi_v3, fi_v4, fi_v5, fi_n0, fi_n1, fi_n2, fi_mm, fi_stat, fi_alds, fi_tsw, List.getElem?_cons_zero, List.getElem?_cons_succ, List.set_cons_zero, List.set_cons_succ, List.length_cons, List.length_nil, Option.toList_some, Option.toList_none, List.cons_append, List.nil_append, Value.category, true_and, k_0, k_1, k_2, k_3, k_4, false_implies, true_implies, reduceCtorEq, hM.1, hM.2.2.1, k_81, show 56 + 2 = 58 from rfl, h.1, hT.2.1]
    refine ⟨pk_in 81 83 (by decide), pk_le nA k (fun _ => ?_) (fun z => by omega)⟩
    exact ⟨rfl, σ, rfl, h, fun _ _ => rfl, rfl⟩
  | n + 1, k, s, σ, hk, h, hw => by
    have hA := hT.2.2.2.2.1
    refine S_X9_holdingCost_13 ?_
    simp only [T_X9_holdingCost_13, fi_const, fi_iload, fi_aload, fi_istore, fi_astore, fi_iinc, fi_bin, fi_div, fi_un, fi_dup, fi_dup2, fi_pop, fi_if, fi_cmp, fi_getf, fi_putf, fi_putr, fi_ald, fi_ast, fi_alen, fi_iret, fi_zret, fi_vret, fi_cut, fi_no, fi_s0, fi_s1, fi_s2, fi_s3, fi_s4, fi_v0, fi_v1, fi_v2, fi_v3, fi_v4, fi_v5, fi_n0, fi_n1, fi_n2, fi_mm, fi_stat, fi_alds, fi_tsw, List.getElem?_cons_zero, List.getElem?_cons_succ, List.set_cons_zero, List.set_cons_succ, List.length_cons, List.length_nil, Option.toList_some, Option.toList_none, List.cons_append, List.nil_append, Value.category, true_and, k_0, k_1, k_2, k_3, k_4, false_implies, true_implies, reduceCtorEq, hM.1, hM.2.2.1, k_81, show 56 + 2 = 58 from rfl, h.1, hT.2.1]
    refine ⟨pk_in 81 83 (by decide), pk_le nA k (fun z => by omega) (fun _ => ⟨by decide, ⟨_, rfl⟩, (c_heldM hM (show k < 6 by omega)).mono ?_⟩)⟩
    rintro r M' ⟨rfl, σ2, rfl, hg⟩
    obtain ⟨h2, hs2, g0, g64⟩ := gap_IM h hg
    simp only [fi_const, fi_iload, fi_aload, fi_istore, fi_astore, fi_iinc, fi_bin, fi_div, fi_un, fi_dup, fi_dup2, fi_pop, fi_if, fi_cmp, fi_getf, fi_putf, fi_putr, fi_ald, fi_ast, fi_alen, fi_iret, fi_zret, fi_vret, fi_cut, fi_no, fi_s0, fi_s1, fi_s2, fi_s3, fi_s4, fi_v0, fi_v1, fi_v2, fi_v3, fi_v4, fi_v5, fi_n0, fi_n1, fi_n2, fi_mm, fi_stat, fi_alds, fi_tsw, List.getElem?_cons_zero, List.getElem?_cons_succ, List.set_cons_zero, List.set_cons_succ, List.length_cons, List.length_nil, Option.toList_some, Option.toList_none, List.cons_append, List.nil_append, Value.category, true_and, k_0, k_1, k_2, k_3, k_4, false_implies, true_implies, reduceCtorEq, nI_1]
    have e1 : heM (σ (56 + 2) (18 + k)) (σ (56 + 4) 2) (σ (56 + 4) 3) (wkF (σ (56 + 8)) k) = heM (V 2 (18 + k)) (V 4 2) (V 4 3) (v_wk V nS k) := by
      simp only [show 56 + 2 = 58 from rfl, show 56 + 4 = 60 from rfl, show 56 + 8 = 64 from rfl, h.1, h.2.1]
      unfold heM
      rw [dsM_congr (fun j hj => hw k j hj)]
    rw [e1]
    refine fs_R_mono (l_holdM hM hT n (k + 1) _ σ2 (by omega) h2 (fun a j hj => by rw [g64]; exact hw a j hj)) ?_
    rintro r M' ⟨rfl, σ3, rfl, h3, hs3, g3⟩
    exact ⟨rfl, σ3, rfl, h3, fun b hb => (hs3 b hb).trans (hs2 b hb), g3.trans g0⟩
theorem b_holdingCost (hX : shX S) (hT : okT V nL nA nS) : askM g S fr τ V kp nb m_X9_holdingCost [.ref 56] (paF (fun a => heM (V 2 (18 + a)) (V 4 2) (V 4 3) (v_wk V nS a)) nA 0 0) 0 := by
  intro σ h
  have hM := hX.m
  have hL := hT.2.2.2.1
  have hA := hT.2.2.2.2.1
  have hn := hT.2.2.2.2.2.1
  have h1 := h.th 0
  refine fs_enterC (by decide) (by simp [fs_ok]) (Nat.le_of_ble_eq_true rfl) (fun d => S_X9_holdingCost_0 ?_)
  show T_X9_holdingCost_0 g d _ [.ref 56, .null, .null] [] _
  simp only [T_X9_holdingCost_0, fi_const, fi_iload, fi_aload, fi_istore, fi_astore, fi_iinc, fi_bin, fi_div, fi_un, fi_dup, fi_dup2, fi_pop, fi_if, fi_cmp, fi_getf, fi_putf, fi_putr, fi_ald, fi_ast, fi_alen, fi_iret, fi_zret, fi_vret, fi_cut, fi_no, fi_s0, fi_s1, fi_s2, fi_s3, fi_s4, fi_v0, fi_v1, fi_v2, fi_v3, fi_v4, fi_v5, fi_n0, fi_n1, fi_n2, fi_mm, fi_stat, fi_alds, fi_tsw, List.getElem?_cons_zero, List.getElem?_cons_succ, List.set_cons_zero, List.set_cons_succ, List.length_cons, List.length_nil, Option.toList_some, Option.toList_none, List.cons_append, List.nil_append, Value.category, true_and, k_0, k_1, k_2, k_3, k_4, false_implies, true_implies, reduceCtorEq]
  simp only [fi_const, fi_iload, fi_aload, fi_istore, fi_astore, fi_iinc, fi_bin, fi_div, fi_un, fi_dup, fi_dup2, fi_pop, fi_if, fi_cmp, fi_getf, fi_putf, fi_putr, fi_ald, fi_ast, fi_alen, fi_iret, fi_zret, fi_vret, fi_cut, fi_no, fi_s0, fi_s1, fi_s2, fi_s3, fi_s4, fi_v0, fi_v1, fi_v2, fi_v3, fi_v4, fi_v5, fi_n0, fi_n1, fi_n2, fi_mm, fi_stat, fi_alds, fi_tsw, List.getElem?_cons_zero, List.getElem?_cons_succ, List.set_cons_zero, List.set_cons_succ, List.length_cons, List.length_nil, Option.toList_some, Option.toList_none, List.cons_append, List.nil_append, Value.category, true_and, k_0, k_1, k_2, k_3, k_4, false_implies, true_implies, reduceCtorEq, hM.1]
  refine ⟨by decide, ⟨_, rfl⟩, (v_lays hM hT h1).mono ?_⟩
  rintro r M' ⟨rfl, σ', rfl, h2, hs, s0, -, hw⟩
  simp only [fi_const, fi_iload, fi_aload, fi_istore, fi_astore, fi_iinc, fi_bin, fi_div, fi_un, fi_dup, fi_dup2, fi_pop, fi_if, fi_cmp, fi_getf, fi_putf, fi_putr, fi_ald, fi_ast, fi_alen, fi_iret, fi_zret, fi_vret, fi_cut, fi_no, fi_s0, fi_s1, fi_s2, fi_s3, fi_s4, fi_v0, fi_v1, fi_v2, fi_v3, fi_v4, fi_v5, fi_n0, fi_n1, fi_n2, fi_mm, fi_stat, fi_alds, fi_tsw, List.getElem?_cons_zero, List.getElem?_cons_succ, List.set_cons_zero, List.set_cons_succ, List.length_cons, List.length_nil, Option.toList_some, Option.toList_none, List.cons_append, List.nil_append, Value.category, true_and, k_0, k_1, k_2, k_3, k_4, false_implies, true_implies, reduceCtorEq]
  refine fs_R_mono (l_holdM hM hT nA 0 0 σ' (by omega) h2 hw) ?_
  rintro r M' ⟨rfl, σ3, rfl, h3, hs3, g3⟩
  exact ⟨rfl, σ3, rfl, h3, fun b hb => (hs3 b hb).trans ((hs b hb).trans (th_lo _ b hb)), by rw [g3, s0]; simp [fs_u]⟩
theorem l_found (hM : shM S 56) (h : IM σ V kp nb) (o N : Nat) (x : Int32) (hN : o + N ≤ 83) : ∀ n k, k + n = N → fs_R g m_X9_found d (0, 0) 3 [.ref 56, .int (nI o), .int (nI N), .int x, .int (nI k)] [] ((S, fr), σ, τ) (fun r M' => r = some (.int (fndB (fr_ (V 2) o) x n k)) ∧ ((S, fr), σ, τ) = M')
  | 0, k, hk => by
    refine S_X9_found_3 ?_
    simp only [T_X9_found_3, fi_const, fi_iload, fi_aload, fi_istore, fi_astore, fi_iinc, fi_bin, fi_div, fi_un, fi_dup, fi_dup2, fi_pop, fi_if, fi_cmp, fi_getf, fi_putf, fi_putr, fi_ald, fi_ast, fi_alen, fi_iret, fi_zret, fi_vret, fi_cut, fi_no, fi_s0, fi_s1, fi_s2, fi_s3, fi_s4, fi_v0, fi_v1, fi_v2, fi_v3, fi_v4, fi_v5, fi_n0, fi_n1, fi_n2, fi_mm, fi_stat, fi_alds, fi_tsw, List.getElem?_cons_zero, List.getElem?_cons_succ, List.set_cons_zero, List.set_cons_succ, List.length_cons, List.length_nil, Option.toList_some, Option.toList_none, List.cons_append, List.nil_append, Value.category, true_and, k_0, k_1, k_2, k_3, k_4, false_implies, true_implies, reduceCtorEq, hM.1]
    refine pk_le N k (fun _ => ?_) (fun z => by omega)
    simp [fndB]
  | n + 1, k, hk => by
    refine S_X9_found_3 ?_
    simp only [T_X9_found_3, fi_const, fi_iload, fi_aload, fi_istore, fi_astore, fi_iinc, fi_bin, fi_div, fi_un, fi_dup, fi_dup2, fi_pop, fi_if, fi_cmp, fi_getf, fi_putf, fi_putr, fi_ald, fi_ast, fi_alen, fi_iret, fi_zret, fi_vret, fi_cut, fi_no, fi_s0, fi_s1, fi_s2, fi_s3, fi_s4, fi_v0, fi_v1, fi_v2, fi_v3, fi_v4, fi_v5, fi_n0, fi_n1, fi_n2, fi_mm, fi_stat, fi_alds, fi_tsw, List.getElem?_cons_zero, List.getElem?_cons_succ, List.set_cons_zero, List.set_cons_succ, List.length_cons, List.length_nil, Option.toList_some, Option.toList_none, List.cons_append, List.nil_append, Value.category, true_and, k_0, k_1, k_2, k_3, k_4, false_implies, true_implies, reduceCtorEq, hM.1, hM.2.2.1, nI_add, nI_clamp (show o + k < 2 ^ 31 by omega), show 56 + 2 = 58 from rfl, h.1]
    refine pk_le N k (fun z => by omega) (fun _ => ⟨vp_in_nI (by omega) (by decide), fun q => ?_, fun q => ?_⟩)
    · rw [fndB, if_pos (show fr_ (V 2) o k = x from q)]; exact ⟨rfl, trivial⟩
    · rw [fndB, if_neg (show ¬ fr_ (V 2) o k = x from q), nI_1]
      exact l_found hM h o N x hN n (k + 1) (by omega)
theorem c_found (hM : shM S 56) (h : IM σ V kp nb) (o N : Nat) (x : Int32) (hN : o + N ≤ 83) : fs_Ct g m_X9_found [.ref 56, .int (nI o), .int (nI N), .int x] ((S, fr), σ, τ) (fun r M' => r = some (.int (fndB (fr_ (V 2) o) x N 0)) ∧ ((S, fr), σ, τ) = M') := by
  refine fs_enterC (by decide) (by simp [fs_ok]) (Nat.le_of_ble_eq_true rfl) (fun d => S_X9_found_0 ?_)
  show T_X9_found_0 g d _ [.ref 56, .int (nI o), .int (nI N), .int x, .null] [] _
  simp only [T_X9_found_0, fi_const, fi_iload, fi_aload, fi_istore, fi_astore, fi_iinc, fi_bin, fi_div, fi_un, fi_dup, fi_dup2, fi_pop, fi_if, fi_cmp, fi_getf, fi_putf, fi_putr, fi_ald, fi_ast, fi_alen, fi_iret, fi_zret, fi_vret, fi_cut, fi_no, fi_s0, fi_s1, fi_s2, fi_s3, fi_s4, fi_v0, fi_v1, fi_v2, fi_v3, fi_v4, fi_v5, fi_n0, fi_n1, fi_n2, fi_mm, fi_stat, fi_alds, fi_tsw, List.getElem?_cons_zero, List.getElem?_cons_succ, List.set_cons_zero, List.set_cons_succ, List.length_cons, List.length_nil, Option.toList_some, Option.toList_none, List.cons_append, List.nil_append, Value.category, true_and, k_0, k_1, k_2, k_3, k_4, false_implies, true_implies, reduceCtorEq]
  exact l_found hM h o N x hN N 0 (by omega)
theorem b_locationNamed (hX : shX S) (hT : okT V nL nA nS) (x : Int32) : askM g S fr τ V kp nb m_X9_locationNamed [.ref 56, .int x] (fndB (V 2) x nL 0) 0 := by
  intro σ h
  have hM := hX.m
  have hL := hT.2.2.2.1
  have hA := hT.2.2.2.2.1
  have hn := hT.2.2.2.2.2.1
  have h1 := h.th 0
  refine fs_enterC (by decide) (by simp [fs_ok]) (Nat.le_of_ble_eq_true rfl) (fun d => S_X9_locationNamed_0 ?_)
  show T_X9_locationNamed_0 g d _ [.ref 56, .int x] [] _
  simp only [T_X9_locationNamed_0, fi_const, fi_iload, fi_aload, fi_istore, fi_astore, fi_iinc, fi_bin, fi_div, fi_un, fi_dup, fi_dup2, fi_pop, fi_if, fi_cmp, fi_getf, fi_putf, fi_putr, fi_ald, fi_ast, fi_alen, fi_iret, fi_zret, fi_vret, fi_cut, fi_no, fi_s0, fi_s1, fi_s2, fi_s3, fi_s4, fi_v0, fi_v1, fi_v2, fi_v3, fi_v4, fi_v5, fi_n0, fi_n1, fi_n2, fi_mm, fi_stat, fi_alds, fi_tsw, List.getElem?_cons_zero, List.getElem?_cons_succ, List.set_cons_zero, List.set_cons_succ, List.length_cons, List.length_nil, Option.toList_some, Option.toList_none, List.cons_append, List.nil_append, Value.category, true_and, k_0, k_1, k_2, k_3, k_4, false_implies, true_implies, reduceCtorEq]
  simp only [fi_const, fi_iload, fi_aload, fi_istore, fi_astore, fi_iinc, fi_bin, fi_div, fi_un, fi_dup, fi_dup2, fi_pop, fi_if, fi_cmp, fi_getf, fi_putf, fi_putr, fi_ald, fi_ast, fi_alen, fi_iret, fi_zret, fi_vret, fi_cut, fi_no, fi_s0, fi_s1, fi_s2, fi_s3, fi_s4, fi_v0, fi_v1, fi_v2, fi_v3, fi_v4, fi_v5, fi_n0, fi_n1, fi_n2, fi_mm, fi_stat, fi_alds, fi_tsw, List.getElem?_cons_zero, List.getElem?_cons_succ, List.set_cons_zero, List.set_cons_succ, List.length_cons, List.length_nil, Option.toList_some, Option.toList_none, List.cons_append, List.nil_append, Value.category, true_and, k_0, k_1, k_2, k_3, k_4, false_implies, true_implies, reduceCtorEq, hM.1]
  simp only [hM.2.2.1, k_80, show 56 + 2 = 58 from rfl, show fs_u σ 56 0 0 58 80 = nI nL from (congrFun h1.1 80).trans hT.1]
  refine ⟨trivial, pk_in 80 83 (by decide), by decide, ⟨_, rfl⟩, (c_found hM h1 0 nL x (by omega)).mono ?_⟩
  rintro r M' ⟨rfl, rfl⟩
  simp only [fi_const, fi_iload, fi_aload, fi_istore, fi_astore, fi_iinc, fi_bin, fi_div, fi_un, fi_dup, fi_dup2, fi_pop, fi_if, fi_cmp, fi_getf, fi_putf, fi_putr, fi_ald, fi_ast, fi_alen, fi_iret, fi_zret, fi_vret, fi_cut, fi_no, fi_s0, fi_s1, fi_s2, fi_s3, fi_s4, fi_v0, fi_v1, fi_v2, fi_v3, fi_v4, fi_v5, fi_n0, fi_n1, fi_n2, fi_mm, fi_stat, fi_alds, fi_tsw, List.getElem?_cons_zero, List.getElem?_cons_succ, List.set_cons_zero, List.set_cons_succ, List.length_cons, List.length_nil, Option.toList_some, Option.toList_none, List.cons_append, List.nil_append, Value.category, true_and, k_0, k_1, k_2, k_3, k_4, false_implies, true_implies, reduceCtorEq]
  exact ⟨congrArg _ (congrArg _ (by rw [show fr_ (V 2) 0 = V 2 from funext fun k => congrArg (V 2) (Nat.zero_add k)])), _, rfl, h1, th_lo _, by simp [fs_u]⟩
theorem b_actorNamed (hX : shX S) (hT : okT V nL nA nS) (x : Int32) : askM g S fr τ V kp nb m_X9_actorNamed [.ref 56, .int x] (fndB (fr_ (V 2) 12) x nA 0) 0 := by
  intro σ h
  have hM := hX.m
  have hL := hT.2.2.2.1
  have hA := hT.2.2.2.2.1
  have hn := hT.2.2.2.2.2.1
  have h1 := h.th 0
  refine fs_enterC (by decide) (by simp [fs_ok]) (Nat.le_of_ble_eq_true rfl) (fun d => S_X9_actorNamed_0 ?_)
  show T_X9_actorNamed_0 g d _ [.ref 56, .int x] [] _
  simp only [T_X9_actorNamed_0, fi_const, fi_iload, fi_aload, fi_istore, fi_astore, fi_iinc, fi_bin, fi_div, fi_un, fi_dup, fi_dup2, fi_pop, fi_if, fi_cmp, fi_getf, fi_putf, fi_putr, fi_ald, fi_ast, fi_alen, fi_iret, fi_zret, fi_vret, fi_cut, fi_no, fi_s0, fi_s1, fi_s2, fi_s3, fi_s4, fi_v0, fi_v1, fi_v2, fi_v3, fi_v4, fi_v5, fi_n0, fi_n1, fi_n2, fi_mm, fi_stat, fi_alds, fi_tsw, List.getElem?_cons_zero, List.getElem?_cons_succ, List.set_cons_zero, List.set_cons_succ, List.length_cons, List.length_nil, Option.toList_some, Option.toList_none, List.cons_append, List.nil_append, Value.category, true_and, k_0, k_1, k_2, k_3, k_4, false_implies, true_implies, reduceCtorEq]
  simp only [fi_const, fi_iload, fi_aload, fi_istore, fi_astore, fi_iinc, fi_bin, fi_div, fi_un, fi_dup, fi_dup2, fi_pop, fi_if, fi_cmp, fi_getf, fi_putf, fi_putr, fi_ald, fi_ast, fi_alen, fi_iret, fi_zret, fi_vret, fi_cut, fi_no, fi_s0, fi_s1, fi_s2, fi_s3, fi_s4, fi_v0, fi_v1, fi_v2, fi_v3, fi_v4, fi_v5, fi_n0, fi_n1, fi_n2, fi_mm, fi_stat, fi_alds, fi_tsw, List.getElem?_cons_zero, List.getElem?_cons_succ, List.set_cons_zero, List.set_cons_succ, List.length_cons, List.length_nil, Option.toList_some, Option.toList_none, List.cons_append, List.nil_append, Value.category, true_and, k_0, k_1, k_2, k_3, k_4, false_implies, true_implies, reduceCtorEq, hM.1]
  simp only [hM.2.2.1, k_81, show 56 + 2 = 58 from rfl, show fs_u σ 56 0 0 58 81 = nI nA from (congrFun h1.1 81).trans hT.2.1]
  refine ⟨trivial, pk_in 81 83 (by decide), by decide, ⟨_, rfl⟩, (c_found hM h1 12 nA x (by omega)).mono ?_⟩
  rintro r M' ⟨rfl, rfl⟩
  simp only [fi_const, fi_iload, fi_aload, fi_istore, fi_astore, fi_iinc, fi_bin, fi_div, fi_un, fi_dup, fi_dup2, fi_pop, fi_if, fi_cmp, fi_getf, fi_putf, fi_putr, fi_ald, fi_ast, fi_alen, fi_iret, fi_zret, fi_vret, fi_cut, fi_no, fi_s0, fi_s1, fi_s2, fi_s3, fi_s4, fi_v0, fi_v1, fi_v2, fi_v3, fi_v4, fi_v5, fi_n0, fi_n1, fi_n2, fi_mm, fi_stat, fi_alds, fi_tsw, List.getElem?_cons_zero, List.getElem?_cons_succ, List.set_cons_zero, List.set_cons_succ, List.length_cons, List.length_nil, Option.toList_some, Option.toList_none, List.cons_append, List.nil_append, Value.category, true_and, k_0, k_1, k_2, k_3, k_4, false_implies, true_implies, reduceCtorEq]
  exact ⟨_, rfl, h1, th_lo _, by simp [fs_u]⟩
theorem c_isSetting (x : Int32) {M : fs_M} : fs_Ct g m_X9_isSetting [.int x] M (fun r M' => r = some (.int (bI (decide (inI x 4)))) ∧ M = M') := by
  refine fs_enterC (by decide) (by simp [fs_ok]) (Nat.le_of_ble_eq_true rfl) (fun d => S_X9_isSetting_0 ?_)
  show T_X9_isSetting_0 g d _ [.int x] [] _
  simp only [T_X9_isSetting_0, fi_const, fi_iload, fi_aload, fi_istore, fi_astore, fi_iinc, fi_bin, fi_div, fi_un, fi_dup, fi_dup2, fi_pop, fi_if, fi_cmp, fi_getf, fi_putf, fi_putr, fi_ald, fi_ast, fi_alen, fi_iret, fi_zret, fi_vret, fi_cut, fi_no, fi_s0, fi_s1, fi_s2, fi_s3, fi_s4, fi_v0, fi_v1, fi_v2, fi_v3, fi_v4, fi_v5, fi_n0, fi_n1, fi_n2, fi_mm, fi_stat, fi_alds, fi_tsw, List.getElem?_cons_zero, List.getElem?_cons_succ, List.set_cons_zero, List.set_cons_succ, List.length_cons, List.length_nil, Option.toList_some, Option.toList_none, List.cons_append, List.nil_append, Value.category, true_and, k_0, k_1, k_2, k_3, k_4, false_implies, true_implies, reduceCtorEq]
  have e : 3 < x ↔ nI 4 ≤ x := by
    rw [Int32.lt_iff_toInt_lt, Int32.le_iff_toInt_le, nI_toInt (by decide)]
    have : (3 : Int32).toInt = 3 := rfl
    omega
  refine ⟨fun q => ?_, fun q => ⟨fun q2 => ?_, fun q2 => ?_⟩⟩
  · simp [bI, q]
  · simp [bI, e.mp q2]
  · rw [decide_eq_true (show inI x 4 from ⟨q, fun z => q2 (e.mpr z)⟩)]; simp [bI]
theorem seF_in (x : Int32) : seF x = decide (inI x 4) := by
  have e : x < 4 ↔ ¬ nI 4 ≤ x := by
    rw [Int32.lt_iff_toInt_lt, Int32.le_iff_toInt_le, nI_toInt (by decide)]
    have : (4 : Int32).toInt = 4 := rfl
    omega
  unfold seF
  simp only [e]
  by_cases q : x < 0 <;> by_cases q2 : nI 4 ≤ x <;> simp [q, q2]
theorem b_getSetting (hX : shX S) (hT : okT V nL nA nS) (x : Int32) : askM g S fr τ V kp nb m_X9_getSetting [.ref 56, .int x] (if seF x then V 4 x.toNatClampNeg else -2) 0 := by
  intro σ h
  have hM := hX.m
  have hL := hT.2.2.2.1
  have hA := hT.2.2.2.2.1
  have hn := hT.2.2.2.2.2.1
  have h1 := h.th 0
  refine fs_enterC (by decide) (by simp [fs_ok]) (Nat.le_of_ble_eq_true rfl) (fun d => S_X9_getSetting_0 ?_)
  show T_X9_getSetting_0 g d _ [.ref 56, .int x] [] _
  simp only [T_X9_getSetting_0, fi_const, fi_iload, fi_aload, fi_istore, fi_astore, fi_iinc, fi_bin, fi_div, fi_un, fi_dup, fi_dup2, fi_pop, fi_if, fi_cmp, fi_getf, fi_putf, fi_putr, fi_ald, fi_ast, fi_alen, fi_iret, fi_zret, fi_vret, fi_cut, fi_no, fi_s0, fi_s1, fi_s2, fi_s3, fi_s4, fi_v0, fi_v1, fi_v2, fi_v3, fi_v4, fi_v5, fi_n0, fi_n1, fi_n2, fi_mm, fi_stat, fi_alds, fi_tsw, List.getElem?_cons_zero, List.getElem?_cons_succ, List.set_cons_zero, List.set_cons_succ, List.length_cons, List.length_nil, Option.toList_some, Option.toList_none, List.cons_append, List.nil_append, Value.category, true_and, k_0, k_1, k_2, k_3, k_4, false_implies, true_implies, reduceCtorEq]
  simp only [fi_const, fi_iload, fi_aload, fi_istore, fi_astore, fi_iinc, fi_bin, fi_div, fi_un, fi_dup, fi_dup2, fi_pop, fi_if, fi_cmp, fi_getf, fi_putf, fi_putr, fi_ald, fi_ast, fi_alen, fi_iret, fi_zret, fi_vret, fi_cut, fi_no, fi_s0, fi_s1, fi_s2, fi_s3, fi_s4, fi_v0, fi_v1, fi_v2, fi_v3, fi_v4, fi_v5, fi_n0, fi_n1, fi_n2, fi_mm, fi_stat, fi_alds, fi_tsw, List.getElem?_cons_zero, List.getElem?_cons_succ, List.set_cons_zero, List.set_cons_succ, List.length_cons, List.length_nil, Option.toList_some, Option.toList_none, List.cons_append, List.nil_append, Value.category, true_and, k_0, k_1, k_2, k_3, k_4, false_implies, true_implies, reduceCtorEq, hM.1]
  refine ⟨by decide, (c_isSetting x).mono ?_⟩
  rintro r M' ⟨rfl, rfl⟩
  simp only [fi_const, fi_iload, fi_aload, fi_istore, fi_astore, fi_iinc, fi_bin, fi_div, fi_un, fi_dup, fi_dup2, fi_pop, fi_if, fi_cmp, fi_getf, fi_putf, fi_putr, fi_ald, fi_ast, fi_alen, fi_iret, fi_zret, fi_vret, fi_cut, fi_no, fi_s0, fi_s1, fi_s2, fi_s3, fi_s4, fi_v0, fi_v1, fi_v2, fi_v3, fi_v4, fi_v5, fi_n0, fi_n1, fi_n2, fi_mm, fi_stat, fi_alds, fi_tsw, List.getElem?_cons_zero, List.getElem?_cons_succ, List.set_cons_zero, List.set_cons_succ, List.length_cons, List.length_nil, Option.toList_some, Option.toList_none, List.cons_append, List.nil_append, Value.category, true_and, k_0, k_1, k_2, k_3, k_4, false_implies, true_implies, reduceCtorEq, bI_eq0, decide_eq_false_iff_not, hM.1, hM.2.2.2.2.1, seF_in, decide_eq_true_eq]
  refine ⟨fun q => ?_, fun q => ?_⟩
  · rw [if_neg q]
    exact ⟨rfl, _, rfl, h1, th_lo _, by simp [fs_u]⟩
  · have q := Decidable.of_not_not q
    rw [if_pos q]
    obtain ⟨k, hk, rfl⟩ := inI_nat q (by decide)
    rw [show (0 : Int32) + nI k = nI k by simp, nI_clamp (by omega)]
    exact ⟨vp_in_nI (by omega) (by decide), congrArg _ (congrArg _ (congrFun h1.2.1 k)), _, rfl, h1, th_lo _, by simp [fs_u]⟩
theorem b_locationProperty (hX : shX S) (hT : okT V nL nA nS) {l : Nat} (hl : l < nL) (w : Int32) : askM g S fr τ V kp nb m_X9_locationProperty [.ref 56, .int (nI l), .int w] (lpF V l w) 0 := by
  intro σ h
  have hM := hX.m
  have hL := hT.2.2.2.1
  have hA := hT.2.2.2.2.1
  have hn := hT.2.2.2.2.2.1
  refine fs_enterC (by decide) (by simp [fs_ok]) (Nat.le_of_ble_eq_true rfl) (fun d => S_X9_locationProperty_0 ?_)
  show T_X9_locationProperty_0 g d _ [.ref 56, .int (nI l), .int w] [] _
  simp only [T_X9_locationProperty_0, fi_const, fi_iload, fi_aload, fi_istore, fi_astore, fi_iinc, fi_bin, fi_div, fi_un, fi_dup, fi_dup2, fi_pop, fi_if, fi_cmp, fi_getf, fi_putf, fi_putr, fi_ald, fi_ast, fi_alen, fi_iret, fi_zret, fi_vret, fi_cut, fi_no, fi_s0, fi_s1, fi_s2, fi_s3, fi_s4, fi_v0, fi_v1, fi_v2, fi_v3, fi_v4, fi_v5, fi_n0, fi_n1, fi_n2, fi_mm, fi_stat, fi_alds, fi_tsw, List.getElem?_cons_zero, List.getElem?_cons_succ, List.set_cons_zero, List.set_cons_succ, List.length_cons, List.length_nil, Option.toList_some, Option.toList_none, List.cons_append, List.nil_append, Value.category, true_and, k_0, k_1, k_2, k_3, k_4, false_implies, true_implies, reduceCtorEq]
  simp only [fi_const, fi_iload, fi_aload, fi_istore, fi_astore, fi_iinc, fi_bin, fi_div, fi_un, fi_dup, fi_dup2, fi_pop, fi_if, fi_cmp, fi_getf, fi_putf, fi_putr, fi_ald, fi_ast, fi_alen, fi_iret, fi_zret, fi_vret, fi_cut, fi_no, fi_s0, fi_s1, fi_s2, fi_s3, fi_s4, fi_v0, fi_v1, fi_v2, fi_v3, fi_v4, fi_v5, fi_n0, fi_n1, fi_n2, fi_mm, fi_stat, fi_alds, fi_tsw, List.getElem?_cons_zero, List.getElem?_cons_succ, List.set_cons_zero, List.set_cons_succ, List.length_cons, List.length_nil, Option.toList_some, Option.toList_none, List.cons_append, List.nil_append, Value.category, true_and, k_0, k_1, k_2, k_3, k_4, false_implies, true_implies, reduceCtorEq, hM.1, hM.2.2.1, k_80, show 56 + 2 = 58 from rfl, h.1, hT.1]
  refine ⟨fun z => absurd z (nI_pos (by omega)), fun _ => ⟨pk_in 80 83 (by decide), pk_le nL l (fun z => by omega) (fun _ => ?_)⟩⟩
  refine S_X9_locationProperty_21 ?_
  simp only [T_X9_locationProperty_21, fi_const, fi_iload, fi_aload, fi_istore, fi_astore, fi_iinc, fi_bin, fi_div, fi_un, fi_dup, fi_dup2, fi_pop, fi_if, fi_cmp, fi_getf, fi_putf, fi_putr, fi_ald, fi_ast, fi_alen, fi_iret, fi_zret, fi_vret, fi_cut, fi_no, fi_s0, fi_s1, fi_s2, fi_s3, fi_s4, fi_v0, fi_v1, fi_v2, fi_v3, fi_v4, fi_v5, fi_n0, fi_n1, fi_n2, fi_mm, fi_stat, fi_alds, fi_tsw, List.getElem?_cons_zero, List.getElem?_cons_succ, List.set_cons_zero, List.set_cons_succ, List.length_cons, List.length_nil, Option.toList_some, Option.toList_none, List.cons_append, List.nil_append, Value.category, true_and, k_0, k_1, k_2, k_3, k_4, false_implies, true_implies, reduceCtorEq]
  refine ⟨by decide, ⟨_, hM.1⟩, (c_checks hM true).mono ?_⟩
  rintro r M' ⟨rfl, rfl⟩
  have h1 := h.th (bI !true)
  simp only [fi_const, fi_iload, fi_aload, fi_istore, fi_astore, fi_iinc, fi_bin, fi_div, fi_un, fi_dup, fi_dup2, fi_pop, fi_if, fi_cmp, fi_getf, fi_putf, fi_putr, fi_ald, fi_ast, fi_alen, fi_iret, fi_zret, fi_vret, fi_cut, fi_no, fi_s0, fi_s1, fi_s2, fi_s3, fi_s4, fi_v0, fi_v1, fi_v2, fi_v3, fi_v4, fi_v5, fi_n0, fi_n1, fi_n2, fi_mm, fi_stat, fi_alds, fi_tsw, List.getElem?_cons_zero, List.getElem?_cons_succ, List.set_cons_zero, List.set_cons_succ, List.length_cons, List.length_nil, Option.toList_some, Option.toList_none, List.cons_append, List.nil_append, Value.category, true_and, k_0, k_1, k_2, k_3, k_4, false_implies, true_implies, reduceCtorEq, bI_eq0, not_true, not_false_eq_true, hM.1, hM.2.2.1, li_4, show (8 : Int32) + nI l = nI (8 + l) from nI_add 8 l, nI_clamp (show 4 + l < 2 ^ 31 by omega), nI_clamp (show 8 + l < 2 ^ 31 by omega), show 56 + 2 = 58 from rfl]
  unfold lpF
  refine ⟨fun q => ?_, fun q => ⟨fun q2 => ?_, fun q2 => ?_⟩⟩
  · rw [if_pos q]
    exact ⟨vp_in_nI (by omega) (by decide), congrArg _ (congrArg _ (congrFun h1.1 (4 + l))), _, rfl, h1, th_lo _, by simp [fs_u, bI]⟩
  · rw [if_neg q, if_pos q2]
    exact ⟨vp_in_nI (by omega) (by decide), congrArg _ (congrArg _ (congrFun h1.1 (8 + l))), _, rfl, h1, th_lo _, by simp [fs_u, bI]⟩
  · rw [if_neg q, if_neg q2]
    exact ⟨rfl, _, rfl, h1, th_lo _, by simp [fs_u, bI]⟩
theorem b_locationProperty_x (hX : shX S) (hT : okT V nL nA nS) {x : Int32} (hx : ¬ inI x nL) (w : Int32) : askM g S fr τ V kp nb m_X9_locationProperty [.ref 56, .int x, .int w] 0 1 := by
  intro σ h
  have hM := hX.m
  have hL := hT.2.2.2.1
  have hA := hT.2.2.2.2.1
  have hn := hT.2.2.2.2.2.1
  have c21 : ∀ d, fs_R g m_X9_locationProperty d (0, 0) 21 [.ref 56, .int x, .int w] [.int 0, .ref 56] ((S, fr), σ, τ) (fun r M' => r = some (.int 0) ∧ ∃ σ', M' = ((S, fr), σ', τ) ∧ IM σ' V kp nb ∧ (∀ a, a < 56 ∨ 69 ≤ a → σ' a = σ a) ∧ σ' 56 0 = 1) := by
    intro d
    refine S_X9_locationProperty_21 ?_
    simp only [T_X9_locationProperty_21, fi_const, fi_iload, fi_aload, fi_istore, fi_astore, fi_iinc, fi_bin, fi_div, fi_un, fi_dup, fi_dup2, fi_pop, fi_if, fi_cmp, fi_getf, fi_putf, fi_putr, fi_ald, fi_ast, fi_alen, fi_iret, fi_zret, fi_vret, fi_cut, fi_no, fi_s0, fi_s1, fi_s2, fi_s3, fi_s4, fi_v0, fi_v1, fi_v2, fi_v3, fi_v4, fi_v5, fi_n0, fi_n1, fi_n2, fi_mm, fi_stat, fi_alds, fi_tsw, List.getElem?_cons_zero, List.getElem?_cons_succ, List.set_cons_zero, List.set_cons_succ, List.length_cons, List.length_nil, Option.toList_some, Option.toList_none, List.cons_append, List.nil_append, Value.category, true_and, k_0, k_1, k_2, k_3, k_4, false_implies, true_implies, reduceCtorEq]
    refine ⟨by decide, ⟨_, hM.1⟩, (c_checks hM false).mono ?_⟩
    rintro r M' ⟨rfl, rfl⟩
    simp only [fi_const, fi_iload, fi_aload, fi_istore, fi_astore, fi_iinc, fi_bin, fi_div, fi_un, fi_dup, fi_dup2, fi_pop, fi_if, fi_cmp, fi_getf, fi_putf, fi_putr, fi_ald, fi_ast, fi_alen, fi_iret, fi_zret, fi_vret, fi_cut, fi_no, fi_s0, fi_s1, fi_s2, fi_s3, fi_s4, fi_v0, fi_v1, fi_v2, fi_v3, fi_v4, fi_v5, fi_n0, fi_n1, fi_n2, fi_mm, fi_stat, fi_alds, fi_tsw, List.getElem?_cons_zero, List.getElem?_cons_succ, List.set_cons_zero, List.set_cons_succ, List.length_cons, List.length_nil, Option.toList_some, Option.toList_none, List.cons_append, List.nil_append, Value.category, true_and, k_0, k_1, k_2, k_3, k_4, false_implies, true_implies, reduceCtorEq, bI_eq0, not_true, not_false_eq_true, and_true]
    exact ⟨_, rfl, h.th _, th_lo _, by simp [fs_u, bI]⟩
  refine fs_enterC (by decide) (by simp [fs_ok]) (Nat.le_of_ble_eq_true rfl) (fun d => S_X9_locationProperty_0 ?_)
  show T_X9_locationProperty_0 g d _ [.ref 56, .int x, .int w] [] _
  simp only [T_X9_locationProperty_0, fi_const, fi_iload, fi_aload, fi_istore, fi_astore, fi_iinc, fi_bin, fi_div, fi_un, fi_dup, fi_dup2, fi_pop, fi_if, fi_cmp, fi_getf, fi_putf, fi_putr, fi_ald, fi_ast, fi_alen, fi_iret, fi_zret, fi_vret, fi_cut, fi_no, fi_s0, fi_s1, fi_s2, fi_s3, fi_s4, fi_v0, fi_v1, fi_v2, fi_v3, fi_v4, fi_v5, fi_n0, fi_n1, fi_n2, fi_mm, fi_stat, fi_alds, fi_tsw, List.getElem?_cons_zero, List.getElem?_cons_succ, List.set_cons_zero, List.set_cons_succ, List.length_cons, List.length_nil, Option.toList_some, Option.toList_none, List.cons_append, List.nil_append, Value.category, true_and, k_0, k_1, k_2, k_3, k_4, false_implies, true_implies, reduceCtorEq]
  simp only [fi_const, fi_iload, fi_aload, fi_istore, fi_astore, fi_iinc, fi_bin, fi_div, fi_un, fi_dup, fi_dup2, fi_pop, fi_if, fi_cmp, fi_getf, fi_putf, fi_putr, fi_ald, fi_ast, fi_alen, fi_iret, fi_zret, fi_vret, fi_cut, fi_no, fi_s0, fi_s1, fi_s2, fi_s3, fi_s4, fi_v0, fi_v1, fi_v2, fi_v3, fi_v4, fi_v5, fi_n0, fi_n1, fi_n2, fi_mm, fi_stat, fi_alds, fi_tsw, List.getElem?_cons_zero, List.getElem?_cons_succ, List.set_cons_zero, List.set_cons_succ, List.length_cons, List.length_nil, Option.toList_some, Option.toList_none, List.cons_append, List.nil_append, Value.category, true_and, k_0, k_1, k_2, k_3, k_4, false_implies, true_implies, reduceCtorEq, hM.1, hM.2.2.1, k_80, show 56 + 2 = 58 from rfl, h.1, hT.1]
  exact ⟨fun _ => c21 d, fun q => ⟨pk_in 80 83 (by decide), fun _ => c21 d, fun q2 => absurd ⟨q, q2⟩ hx⟩⟩
theorem l_waitM (hM : shM S 56) (hT : okT V nL nA nS) (h : IM σ V kp nb) (l : Nat) {nt : Int32} (hnt : nt = 0 ∨ nt = 1) : ∀ n k s z, k + n = nS → fs_R g m_X9_waitingFor d (0, 0) 34 [.ref 56, .int (nI l), .int nt, .int s, .int (nI k), z] [] ((S, fr), σ, τ) (fun r M' => r = some (.int (suF (v_lo V) (fun k => if v_dy V k = -1 then v_ni V k else -1) (fun _ => 1) (nI l) nt n k s)) ∧ ((S, fr), σ, τ) = M')
  | 0, k, s, z, hk => by
    have hn := hT.2.2.2.2.2.1
    refine S_X9_waitingFor_34 ?_
    simp only [T_X9_waitingFor_34, fi_const, fi_iload, fi_aload, fi_istore, fi_astore, fi_iinc, fi_bin, fi_div, fi_un, fi_dup, fi_dup2, fi_pop, fi_if, fi_cmp, fi_getf, fi_putf, fi_putr, fi_ald, fi_ast, fi_alen, fi_iret, fi_zret, fi_vret, fi_cut, fi_no, fi_s0, fi_s1, fi_s2, fi_s3, fi_s4, fi_v0, fi_v1, fi_v2, fi_v3, fi_v4, fi_v5, fi_n0, fi_n1, fi_n2, fi_mm, fi_stat, fi_alds, fi_tsw, List.getElem?_cons_zero, List.getElem?_cons_succ, List.set_cons_zero, List.set_cons_succ, List.length_cons, List.length_nil, Option.toList_some, Option.toList_none, List.cons_append, List.nil_append, Value.category, true_and, k_0, k_1, k_2, k_3, k_4, false_implies, true_implies, reduceCtorEq, hM.1, hM.2.2.1, k_82, show 56 + 2 = 58 from rfl, h.1, hT.2.2.1]
    refine ⟨pk_in 82 83 (by decide), pk_le nS k (fun _ => ?_) (fun z => by omega)⟩
    exact ⟨rfl, trivial⟩
  | n + 1, k, s, z, hk => by
    have hn := hT.2.2.2.2.2.1
    have m1 : ¬ (-1 : Int32) = nt := by rcases hnt with rfl | rfl <;> decide
    have c87 : ∀ (b : Bool) z, (b = true ↔ v_lo V k = nI l ∧ v_ni V k = nt) → fs_R g m_X9_waitingFor d (0, 0) 87 [.ref 56, .int (nI l), .int nt, .int s, .int (nI k), z] [.int (bI b)] ((S, fr), σ, τ) (fun r M' => r = some (.int (suF (v_lo V) (fun k => if v_dy V k = -1 then v_ni V k else -1) (fun _ => 1) (nI l) nt (n + 1) k s)) ∧ ((S, fr), σ, τ) = M') := by
      intro b z hb
      refine S_X9_waitingFor_87 ?_
      simp only [T_X9_waitingFor_87, fi_const, fi_iload, fi_aload, fi_istore, fi_astore, fi_iinc, fi_bin, fi_div, fi_un, fi_dup, fi_dup2, fi_pop, fi_if, fi_cmp, fi_getf, fi_putf, fi_putr, fi_ald, fi_ast, fi_alen, fi_iret, fi_zret, fi_vret, fi_cut, fi_no, fi_s0, fi_s1, fi_s2, fi_s3, fi_s4, fi_v0, fi_v1, fi_v2, fi_v3, fi_v4, fi_v5, fi_n0, fi_n1, fi_n2, fi_mm, fi_stat, fi_alds, fi_tsw, List.getElem?_cons_zero, List.getElem?_cons_succ, List.set_cons_zero, List.set_cons_succ, List.length_cons, List.length_nil, Option.toList_some, Option.toList_none, List.cons_append, List.nil_append, Value.category, true_and, k_0, k_1, k_2, k_3, k_4, false_implies, true_implies, reduceCtorEq, hM.1, hM.2.2.2.2.1, bI_eq0, li_4, nI_clamp (show 4 + k < 2 ^ 31 by omega), show 56 + 4 = 60 from rfl, h.2.1, nI_1]
      refine ⟨fun q => ?_, fun q => ⟨vp_in_nI (by omega) (by decide), fun q2 => ?_, fun q2 => ?_⟩⟩
      · rw [suF, if_neg (by
          intro w
          by_cases w2 : v_dy V k = -1
          · rw [if_pos w2] at w; rw [hb.mpr w] at q; cases q
          · rw [if_neg w2] at w; exact m1 w.2), show s + (0 : Int32) = s by simp]
        exact l_waitM hM hT h l hnt n (k + 1) s _ (by omega)
      · rw [suF, if_pos (by rw [if_pos (show v_dy V k = -1 from q2)]; exact hb.mp (by simpa using q))]
        exact l_waitM hM hT h l hnt n (k + 1) _ _ (by omega)
      · rw [suF, if_neg (by rw [if_neg (show ¬ v_dy V k = -1 from q2)]; exact fun z => m1 z.2), show s + (0 : Int32) = s by simp]
        exact l_waitM hM hT h l hnt n (k + 1) s _ (by omega)
    refine S_X9_waitingFor_34 ?_
    simp only [T_X9_waitingFor_34, fi_const, fi_iload, fi_aload, fi_istore, fi_astore, fi_iinc, fi_bin, fi_div, fi_un, fi_dup, fi_dup2, fi_pop, fi_if, fi_cmp, fi_getf, fi_putf, fi_putr, fi_ald, fi_ast, fi_alen, fi_iret, fi_zret, fi_vret, fi_cut, fi_no, fi_s0, fi_s1, fi_s2, fi_s3, fi_s4, fi_v0, fi_v1, fi_v2, fi_v3, fi_v4, fi_v5, fi_n0, fi_n1, fi_n2, fi_mm, fi_stat, fi_alds, fi_tsw, List.getElem?_cons_zero, List.getElem?_cons_succ, List.set_cons_zero, List.set_cons_succ, List.length_cons, List.length_nil, Option.toList_some, Option.toList_none, List.cons_append, List.nil_append, Value.category, true_and, k_0, k_1, k_2, k_3, k_4, false_implies, true_implies, reduceCtorEq, hM.1, hM.2.2.1, k_82, show 56 + 2 = 58 from rfl, h.1, hT.2.2.1, li_24, li_52, nI_clamp (show 24 + k < 2 ^ 31 by omega), nI_clamp (show 52 + k < 2 ^ 31 by omega)]
    refine ⟨pk_in 82 83 (by decide), pk_le nS k (fun z => by omega) (fun _ => ⟨vp_in_nI (by omega) (by decide), fun q => ⟨vp_in_nI (by omega) (by decide), fun q2 => ⟨fun q3 => ?_, fun q3 => ?_⟩, fun q2 => ⟨fun q3 => ?_, fun q3 => ?_⟩⟩, fun q => ?_⟩)⟩
    · exact c87 true _ ⟨fun _ => ⟨q, q3.trans q2.symm⟩, fun _ => rfl⟩
    · exact c87 false _ ⟨fun w => (by cases w), fun w => absurd (w.2.trans q2) q3⟩
    · exact c87 true _ ⟨fun _ => ⟨q, q3.trans (hnt.resolve_left q2).symm⟩, fun _ => rfl⟩
    · exact c87 false _ ⟨fun w => (by cases w), fun w => absurd (w.2.trans (hnt.resolve_left q2)) q3⟩
    · exact c87 false _ ⟨fun w => (by cases w), fun w => absurd w.1 q⟩
theorem b_waitingFor (hX : shX S) (hT : okT V nL nA nS) {l : Nat} (hl : l < nL) {nt : Int32} (hnt : nt = 0 ∨ nt = 1) : askM g S fr τ V kp nb m_X9_waitingFor [.ref 56, .int (nI l), .int nt] (waV V nS l nt) 0 := by
  intro σ h
  have hM := hX.m
  have hL := hT.2.2.2.1
  have hA := hT.2.2.2.2.1
  have hn := hT.2.2.2.2.2.1
  refine fs_enterC (by decide) (by simp [fs_ok]) (Nat.le_of_ble_eq_true rfl) (fun d => S_X9_waitingFor_0 ?_)
  show T_X9_waitingFor_0 g d _ [.ref 56, .int (nI l), .int nt, .null, .null, .null] [] _
  simp only [T_X9_waitingFor_0, fi_const, fi_iload, fi_aload, fi_istore, fi_astore, fi_iinc, fi_bin, fi_div, fi_un, fi_dup, fi_dup2, fi_pop, fi_if, fi_cmp, fi_getf, fi_putf, fi_putr, fi_ald, fi_ast, fi_alen, fi_iret, fi_zret, fi_vret, fi_cut, fi_no, fi_s0, fi_s1, fi_s2, fi_s3, fi_s4, fi_v0, fi_v1, fi_v2, fi_v3, fi_v4, fi_v5, fi_n0, fi_n1, fi_n2, fi_mm, fi_stat, fi_alds, fi_tsw, List.getElem?_cons_zero, List.getElem?_cons_succ, List.set_cons_zero, List.set_cons_succ, List.length_cons, List.length_nil, Option.toList_some, Option.toList_none, List.cons_append, List.nil_append, Value.category, true_and, k_0, k_1, k_2, k_3, k_4, false_implies, true_implies, reduceCtorEq]
  simp only [fi_const, fi_iload, fi_aload, fi_istore, fi_astore, fi_iinc, fi_bin, fi_div, fi_un, fi_dup, fi_dup2, fi_pop, fi_if, fi_cmp, fi_getf, fi_putf, fi_putr, fi_ald, fi_ast, fi_alen, fi_iret, fi_zret, fi_vret, fi_cut, fi_no, fi_s0, fi_s1, fi_s2, fi_s3, fi_s4, fi_v0, fi_v1, fi_v2, fi_v3, fi_v4, fi_v5, fi_n0, fi_n1, fi_n2, fi_mm, fi_stat, fi_alds, fi_tsw, List.getElem?_cons_zero, List.getElem?_cons_succ, List.set_cons_zero, List.set_cons_succ, List.length_cons, List.length_nil, Option.toList_some, Option.toList_none, List.cons_append, List.nil_append, Value.category, true_and, k_0, k_1, k_2, k_3, k_4, false_implies, true_implies, reduceCtorEq, hM.1, hM.2.2.1, k_80, show 56 + 2 = 58 from rfl, h.1, hT.1]
  refine ⟨fun z => absurd z (nI_pos (by omega)), fun _ => ⟨pk_in 80 83 (by decide), pk_le nL l (fun z => by omega) (fun _ => ⟨by decide, ⟨_, rfl⟩, (c_checks hM true).mono ?_⟩)⟩⟩
  rintro r M' ⟨rfl, rfl⟩
  have h1 := h.th (bI !true)
  simp only [fi_const, fi_iload, fi_aload, fi_istore, fi_astore, fi_iinc, fi_bin, fi_div, fi_un, fi_dup, fi_dup2, fi_pop, fi_if, fi_cmp, fi_getf, fi_putf, fi_putr, fi_ald, fi_ast, fi_alen, fi_iret, fi_zret, fi_vret, fi_cut, fi_no, fi_s0, fi_s1, fi_s2, fi_s3, fi_s4, fi_v0, fi_v1, fi_v2, fi_v3, fi_v4, fi_v5, fi_n0, fi_n1, fi_n2, fi_mm, fi_stat, fi_alds, fi_tsw, List.getElem?_cons_zero, List.getElem?_cons_succ, List.set_cons_zero, List.set_cons_succ, List.length_cons, List.length_nil, Option.toList_some, Option.toList_none, List.cons_append, List.nil_append, Value.category, true_and, k_0, k_1, k_2, k_3, k_4, false_implies, true_implies, reduceCtorEq, bI_eq0, not_true, not_false_eq_true]
  refine fs_R_mono (l_waitM hM hT h1 l hnt nS 0 0 _ (by omega)) ?_
  rintro r M' ⟨rfl, rfl⟩
  exact ⟨rfl, _, rfl, h1, th_lo _, by simp [fs_u, bI]⟩
theorem b_waitingFor_x (hX : shX S) (hT : okT V nL nA nS) {x : Int32} (hx : ¬ inI x nL) (nt : Int32) : askM g S fr τ V kp nb m_X9_waitingFor [.ref 56, .int x, .int nt] 0 1 := by
  intro σ h
  have hM := hX.m
  have hL := hT.2.2.2.1
  have hA := hT.2.2.2.2.1
  have hn := hT.2.2.2.2.2.1
  have c20 : ∀ d z3 z4 z5, fs_R g m_X9_waitingFor d (0, 0) 20 [.ref 56, .int x, .int nt, z3, z4, z5] [.ref 56] ((S, fr), σ, τ) (fun r M' => r = some (.int 0) ∧ ∃ σ', M' = ((S, fr), σ', τ) ∧ IM σ' V kp nb ∧ (∀ a, a < 56 ∨ 69 ≤ a → σ' a = σ a) ∧ σ' 56 0 = 1) := by
    intro d z3 z4 z5
    refine S_X9_waitingFor_20 ?_
    simp only [T_X9_waitingFor_20, fi_const, fi_iload, fi_aload, fi_istore, fi_astore, fi_iinc, fi_bin, fi_div, fi_un, fi_dup, fi_dup2, fi_pop, fi_if, fi_cmp, fi_getf, fi_putf, fi_putr, fi_ald, fi_ast, fi_alen, fi_iret, fi_zret, fi_vret, fi_cut, fi_no, fi_s0, fi_s1, fi_s2, fi_s3, fi_s4, fi_v0, fi_v1, fi_v2, fi_v3, fi_v4, fi_v5, fi_n0, fi_n1, fi_n2, fi_mm, fi_stat, fi_alds, fi_tsw, List.getElem?_cons_zero, List.getElem?_cons_succ, List.set_cons_zero, List.set_cons_succ, List.length_cons, List.length_nil, Option.toList_some, Option.toList_none, List.cons_append, List.nil_append, Value.category, true_and, k_0, k_1, k_2, k_3, k_4, false_implies, true_implies, reduceCtorEq]
    refine ⟨by decide, ⟨_, hM.1⟩, (c_checks hM false).mono ?_⟩
    rintro r M' ⟨rfl, rfl⟩
    simp only [fi_const, fi_iload, fi_aload, fi_istore, fi_astore, fi_iinc, fi_bin, fi_div, fi_un, fi_dup, fi_dup2, fi_pop, fi_if, fi_cmp, fi_getf, fi_putf, fi_putr, fi_ald, fi_ast, fi_alen, fi_iret, fi_zret, fi_vret, fi_cut, fi_no, fi_s0, fi_s1, fi_s2, fi_s3, fi_s4, fi_v0, fi_v1, fi_v2, fi_v3, fi_v4, fi_v5, fi_n0, fi_n1, fi_n2, fi_mm, fi_stat, fi_alds, fi_tsw, List.getElem?_cons_zero, List.getElem?_cons_succ, List.set_cons_zero, List.set_cons_succ, List.length_cons, List.length_nil, Option.toList_some, Option.toList_none, List.cons_append, List.nil_append, Value.category, true_and, k_0, k_1, k_2, k_3, k_4, false_implies, true_implies, reduceCtorEq, bI_eq0, not_true, not_false_eq_true, and_true]
    exact ⟨_, rfl, h.th _, th_lo _, by simp [fs_u, bI]⟩
  refine fs_enterC (by decide) (by simp [fs_ok]) (Nat.le_of_ble_eq_true rfl) (fun d => S_X9_waitingFor_0 ?_)
  show T_X9_waitingFor_0 g d _ [.ref 56, .int x, .int nt, .null, .null, .null] [] _
  simp only [T_X9_waitingFor_0, fi_const, fi_iload, fi_aload, fi_istore, fi_astore, fi_iinc, fi_bin, fi_div, fi_un, fi_dup, fi_dup2, fi_pop, fi_if, fi_cmp, fi_getf, fi_putf, fi_putr, fi_ald, fi_ast, fi_alen, fi_iret, fi_zret, fi_vret, fi_cut, fi_no, fi_s0, fi_s1, fi_s2, fi_s3, fi_s4, fi_v0, fi_v1, fi_v2, fi_v3, fi_v4, fi_v5, fi_n0, fi_n1, fi_n2, fi_mm, fi_stat, fi_alds, fi_tsw, List.getElem?_cons_zero, List.getElem?_cons_succ, List.set_cons_zero, List.set_cons_succ, List.length_cons, List.length_nil, Option.toList_some, Option.toList_none, List.cons_append, List.nil_append, Value.category, true_and, k_0, k_1, k_2, k_3, k_4, false_implies, true_implies, reduceCtorEq]
  simp only [fi_const, fi_iload, fi_aload, fi_istore, fi_astore, fi_iinc, fi_bin, fi_div, fi_un, fi_dup, fi_dup2, fi_pop, fi_if, fi_cmp, fi_getf, fi_putf, fi_putr, fi_ald, fi_ast, fi_alen, fi_iret, fi_zret, fi_vret, fi_cut, fi_no, fi_s0, fi_s1, fi_s2, fi_s3, fi_s4, fi_v0, fi_v1, fi_v2, fi_v3, fi_v4, fi_v5, fi_n0, fi_n1, fi_n2, fi_mm, fi_stat, fi_alds, fi_tsw, List.getElem?_cons_zero, List.getElem?_cons_succ, List.set_cons_zero, List.set_cons_succ, List.length_cons, List.length_nil, Option.toList_some, Option.toList_none, List.cons_append, List.nil_append, Value.category, true_and, k_0, k_1, k_2, k_3, k_4, false_implies, true_implies, reduceCtorEq, hM.1, hM.2.2.1, k_80, show 56 + 2 = 58 from rfl, h.1, hT.1]
  exact ⟨fun _ => c20 d _ _ _, fun q => ⟨pk_in 80 83 (by decide), fun _ => c20 d _ _ _, fun q2 => absurd ⟨q, q2⟩ hx⟩⟩
theorem l_fewM33 (hM : shM S 56) (hT : okT V nL nA nS) (hN : okN V nS (V 4)) (h : IM σ V kp nb) (acc : Int32) (l : Nat) (nt : Int32) {Q : Option Value → fs_M → Prop} : ∀ n k s, k + n = nS → (∀ z4 z5, fs_R g m_X9_fewestDays d (0, 0) 22 [.ref 56, .int (acc + (suF (v_lo V) (v_ni V) (v_le V) (nI l) nt n k s + V 4 0 - 1) / V 4 0), .int (nI l), .int (nt + 1), z4, z5] [] ((S, fr), σ, τ) Q) → fs_R g m_X9_fewestDays d (0, 0) 33 [.ref 56, .int acc, .int (nI l), .int nt, .int s, .int (nI k)] [] ((S, fr), σ, τ) Q
  | 0, k, s, hk, h22 => by
    have hn := hT.2.2.2.2.2.1
    obtain ⟨⟨c, hc1, hc2, ec⟩, -⟩ := hN
    refine S_X9_fewestDays_33 ?_
    simp only [T_X9_fewestDays_33, fi_const, fi_iload, fi_aload, fi_istore, fi_astore, fi_iinc, fi_bin, fi_div, fi_un, fi_dup, fi_dup2, fi_pop, fi_if, fi_cmp, fi_getf, fi_putf, fi_putr, fi_ald, fi_ast, fi_alen, fi_iret, fi_zret, fi_vret, fi_cut, fi_no, fi_s0, fi_s1, fi_s2, fi_s3, fi_s4, fi_v0, fi_v1, fi_v2, fi_v3, fi_v4, fi_v5, fi_n0, fi_n1, fi_n2, fi_mm, fi_stat, fi_alds, fi_tsw, List.getElem?_cons_zero, List.getElem?_cons_succ, List.set_cons_zero, List.set_cons_succ, List.length_cons, List.length_nil, Option.toList_some, Option.toList_none, List.cons_append, List.nil_append, Value.category, true_and, k_0, k_1, k_2, k_3, k_4, false_implies, true_implies, reduceCtorEq, hM.1, hM.2.2.1, hM.2.2.2.2.1, k_82, show 56 + 2 = 58 from rfl, show 56 + 4 = 60 from rfl, h.1, h.2.1, hT.2.2.1]
    refine ⟨pk_in 82 83 (by decide), pk_le nS k (fun _ => ⟨pk_in 0 18 (by decide), pk_in 0 18 (by decide), ?_, ?_⟩) (fun z => by omega)⟩
    · rw [ec]; exact nI_ne0 (by omega) (by omega)
    · exact h22 _ _
  | n + 1, k, s, hk, h22 => by
    have hn := hT.2.2.2.2.2.1
    refine S_X9_fewestDays_33 ?_
    simp only [T_X9_fewestDays_33, fi_const, fi_iload, fi_aload, fi_istore, fi_astore, fi_iinc, fi_bin, fi_div, fi_un, fi_dup, fi_dup2, fi_pop, fi_if, fi_cmp, fi_getf, fi_putf, fi_putr, fi_ald, fi_ast, fi_alen, fi_iret, fi_zret, fi_vret, fi_cut, fi_no, fi_s0, fi_s1, fi_s2, fi_s3, fi_s4, fi_v0, fi_v1, fi_v2, fi_v3, fi_v4, fi_v5, fi_n0, fi_n1, fi_n2, fi_mm, fi_stat, fi_alds, fi_tsw, List.getElem?_cons_zero, List.getElem?_cons_succ, List.set_cons_zero, List.set_cons_succ, List.length_cons, List.length_nil, Option.toList_some, Option.toList_none, List.cons_append, List.nil_append, Value.category, true_and, k_0, k_1, k_2, k_3, k_4, false_implies, true_implies, reduceCtorEq, hM.1, hM.2.2.1, hM.2.2.2.2.1, k_82, show 56 + 2 = 58 from rfl, h.1, hT.2.2.1, li_24, li_38, li_52, nI_clamp (show 24 + k < 2 ^ 31 by omega), nI_clamp (show 38 + k < 2 ^ 31 by omega), nI_clamp (show 52 + k < 2 ^ 31 by omega), nI_1]
    simp only [suF] at h22
    refine ⟨pk_in 82 83 (by decide), pk_le nS k (fun z => by omega) (fun _ => ⟨vp_in_nI (by omega) (by decide), fun q => ⟨vp_in_nI (by omega) (by decide), fun q2 => ⟨vp_in_nI (by omega) (by decide), ?_⟩, fun q2 => ?_⟩, fun q => ?_⟩)⟩
    · rw [if_pos (show v_lo V k = nI l ∧ v_ni V k = nt from ⟨q, q2⟩)] at h22
      exact l_fewM33 hM hT hN h acc l nt n (k + 1) _ (by omega) h22
    · rw [if_neg (show ¬ (v_lo V k = nI l ∧ v_ni V k = nt) from fun w => q2 w.2)] at h22
      rw [show s + (0 : Int32) = s by simp]
      exact l_fewM33 hM hT hN h acc l nt n (k + 1) _ (by omega) h22
    · rw [if_neg (show ¬ (v_lo V k = nI l ∧ v_ni V k = nt) from fun w => q w.1)] at h22
      rw [show s + (0 : Int32) = s by simp]
      exact l_fewM33 hM hT hN h acc l nt n (k + 1) _ (by omega) h22
theorem l_fewM (hM : shM S 56) (hT : okT V nL nA nS) (hN : okN V nS (V 4)) (h : IM σ V kp nb) : ∀ n l acc z3 z4 z5, l + n = nL → fs_R g m_X9_fewestDays d (0, 0) 9 [.ref 56, .int acc, .int (nI l), z3, z4, z5] [] ((S, fr), σ, τ) (fun r M' => r = some (.int (fwF (fun l => faV V nS l 0 + faV V nS l 1) n l acc)) ∧ ((S, fr), σ, τ) = M')
  | 0, l, acc, z3, z4, z5, hl => by
    have hL := hT.2.2.2.1
    refine S_X9_fewestDays_9 ?_
    simp only [T_X9_fewestDays_9, fi_const, fi_iload, fi_aload, fi_istore, fi_astore, fi_iinc, fi_bin, fi_div, fi_un, fi_dup, fi_dup2, fi_pop, fi_if, fi_cmp, fi_getf, fi_putf, fi_putr, fi_ald, fi_ast, fi_alen, fi_iret, fi_zret, fi_vret, fi_cut, fi_no, fi_s0, fi_s1, fi_s2, fi_s3, fi_s4, fi_v0, fi_v1, fi_v2, fi_v3, fi_v4, fi_v5, fi_n0, fi_n1, fi_n2, fi_mm, fi_stat, fi_alds, fi_tsw, List.getElem?_cons_zero, List.getElem?_cons_succ, List.set_cons_zero, List.set_cons_succ, List.length_cons, List.length_nil, Option.toList_some, Option.toList_none, List.cons_append, List.nil_append, Value.category, true_and, k_0, k_1, k_2, k_3, k_4, false_implies, true_implies, reduceCtorEq, hM.1, hM.2.2.1, k_80, show 56 + 2 = 58 from rfl, h.1, hT.1]
    refine ⟨pk_in 80 83 (by decide), pk_le nL l (fun _ => ⟨rfl, trivial⟩) (fun z => by omega)⟩
  | n + 1, l, acc, z3, z4, z5, hl => by
    have hL := hT.2.2.2.1
    refine S_X9_fewestDays_9 ?_
    simp only [T_X9_fewestDays_9, fi_const, fi_iload, fi_aload, fi_istore, fi_astore, fi_iinc, fi_bin, fi_div, fi_un, fi_dup, fi_dup2, fi_pop, fi_if, fi_cmp, fi_getf, fi_putf, fi_putr, fi_ald, fi_ast, fi_alen, fi_iret, fi_zret, fi_vret, fi_cut, fi_no, fi_s0, fi_s1, fi_s2, fi_s3, fi_s4, fi_v0, fi_v1, fi_v2, fi_v3, fi_v4, fi_v5, fi_n0, fi_n1, fi_n2, fi_mm, fi_stat, fi_alds, fi_tsw, List.getElem?_cons_zero, List.getElem?_cons_succ, List.set_cons_zero, List.set_cons_succ, List.length_cons, List.length_nil, Option.toList_some, Option.toList_none, List.cons_append, List.nil_append, Value.category, true_and, k_0, k_1, k_2, k_3, k_4, false_implies, true_implies, reduceCtorEq, hM.1, hM.2.2.1, k_80, show 56 + 2 = 58 from rfl, h.1, hT.1]
    refine ⟨pk_in 80 83 (by decide), pk_le nL l (fun z => by omega) (fun _ => ?_)⟩
    refine S_X9_fewestDays_22 ?_
    simp only [T_X9_fewestDays_22, fi_const, fi_iload, fi_aload, fi_istore, fi_astore, fi_iinc, fi_bin, fi_div, fi_un, fi_dup, fi_dup2, fi_pop, fi_if, fi_cmp, fi_getf, fi_putf, fi_putr, fi_ald, fi_ast, fi_alen, fi_iret, fi_zret, fi_vret, fi_cut, fi_no, fi_s0, fi_s1, fi_s2, fi_s3, fi_s4, fi_v0, fi_v1, fi_v2, fi_v3, fi_v4, fi_v5, fi_n0, fi_n1, fi_n2, fi_mm, fi_stat, fi_alds, fi_tsw, List.getElem?_cons_zero, List.getElem?_cons_succ, List.set_cons_zero, List.set_cons_succ, List.length_cons, List.length_nil, Option.toList_some, Option.toList_none, List.cons_append, List.nil_append, Value.category, true_and, k_0, k_1, k_2, k_3, k_4, false_implies, true_implies, reduceCtorEq]
    refine ⟨fun z => absurd z (by decide), fun _ => ?_⟩
    refine l_fewM33 hM hT hN h acc l 0 nS 0 0 (by omega) (fun z4 z5 => ?_)
    refine S_X9_fewestDays_22 ?_
    simp only [T_X9_fewestDays_22, fi_const, fi_iload, fi_aload, fi_istore, fi_astore, fi_iinc, fi_bin, fi_div, fi_un, fi_dup, fi_dup2, fi_pop, fi_if, fi_cmp, fi_getf, fi_putf, fi_putr, fi_ald, fi_ast, fi_alen, fi_iret, fi_zret, fi_vret, fi_cut, fi_no, fi_s0, fi_s1, fi_s2, fi_s3, fi_s4, fi_v0, fi_v1, fi_v2, fi_v3, fi_v4, fi_v5, fi_n0, fi_n1, fi_n2, fi_mm, fi_stat, fi_alds, fi_tsw, List.getElem?_cons_zero, List.getElem?_cons_succ, List.set_cons_zero, List.set_cons_succ, List.length_cons, List.length_nil, Option.toList_some, Option.toList_none, List.cons_append, List.nil_append, Value.category, true_and, k_0, k_1, k_2, k_3, k_4, false_implies, true_implies, reduceCtorEq]
    refine ⟨fun z => absurd z (by decide), fun _ => ?_⟩
    refine l_fewM33 hM hT hN h _ l (0 + 1) nS 0 0 (by omega) (fun z4 z5 => ?_)
    refine S_X9_fewestDays_22 ?_
    simp only [T_X9_fewestDays_22, fi_const, fi_iload, fi_aload, fi_istore, fi_astore, fi_iinc, fi_bin, fi_div, fi_un, fi_dup, fi_dup2, fi_pop, fi_if, fi_cmp, fi_getf, fi_putf, fi_putr, fi_ald, fi_ast, fi_alen, fi_iret, fi_zret, fi_vret, fi_cut, fi_no, fi_s0, fi_s1, fi_s2, fi_s3, fi_s4, fi_v0, fi_v1, fi_v2, fi_v3, fi_v4, fi_v5, fi_n0, fi_n1, fi_n2, fi_mm, fi_stat, fi_alds, fi_tsw, List.getElem?_cons_zero, List.getElem?_cons_succ, List.set_cons_zero, List.set_cons_succ, List.length_cons, List.length_nil, Option.toList_some, Option.toList_none, List.cons_append, List.nil_append, Value.category, true_and, k_0, k_1, k_2, k_3, k_4, false_implies, true_implies, reduceCtorEq, nI_1]
    refine ⟨fun _ => ?_, fun z => absurd (by decide) z⟩
    have := l_fewM hM hT hN h n (l + 1) (acc + (faV V nS l 0 + faV V nS l 1)) (.int (0 + 1 + 1)) z4 z5 (by omega)
    rw [show fwF (fun l => faV V nS l 0 + faV V nS l 1) (n + 1) l acc = fwF (fun l => faV V nS l 0 + faV V nS l 1) n (l + 1) (acc + (faV V nS l 0 + faV V nS l 1)) from rfl]
    rw [← Int32.add_assoc] at this ⊢
    rw [show (0 : Int32) + 1 = 1 from rfl] at this ⊢
    exact this
theorem b_fewestDays (hX : shX S) (hT : okT V nL nA nS) (hN : okN V nS (V 4)) : askM g S fr τ V kp nb m_X9_fewestDays [.ref 56] (fwV V nL nS) 0 := by
  intro σ h
  have hM := hX.m
  have hL := hT.2.2.2.1
  have hA := hT.2.2.2.2.1
  have hn := hT.2.2.2.2.2.1
  have h1 := h.th 0
  refine fs_enterC (by decide) (by simp [fs_ok]) (Nat.le_of_ble_eq_true rfl) (fun d => S_X9_fewestDays_0 ?_)
  show T_X9_fewestDays_0 g d _ [.ref 56, .null, .null, .null, .null, .null] [] _
  simp only [T_X9_fewestDays_0, fi_const, fi_iload, fi_aload, fi_istore, fi_astore, fi_iinc, fi_bin, fi_div, fi_un, fi_dup, fi_dup2, fi_pop, fi_if, fi_cmp, fi_getf, fi_putf, fi_putr, fi_ald, fi_ast, fi_alen, fi_iret, fi_zret, fi_vret, fi_cut, fi_no, fi_s0, fi_s1, fi_s2, fi_s3, fi_s4, fi_v0, fi_v1, fi_v2, fi_v3, fi_v4, fi_v5, fi_n0, fi_n1, fi_n2, fi_mm, fi_stat, fi_alds, fi_tsw, List.getElem?_cons_zero, List.getElem?_cons_succ, List.set_cons_zero, List.set_cons_succ, List.length_cons, List.length_nil, Option.toList_some, Option.toList_none, List.cons_append, List.nil_append, Value.category, true_and, k_0, k_1, k_2, k_3, k_4, false_implies, true_implies, reduceCtorEq]
  simp only [fi_const, fi_iload, fi_aload, fi_istore, fi_astore, fi_iinc, fi_bin, fi_div, fi_un, fi_dup, fi_dup2, fi_pop, fi_if, fi_cmp, fi_getf, fi_putf, fi_putr, fi_ald, fi_ast, fi_alen, fi_iret, fi_zret, fi_vret, fi_cut, fi_no, fi_s0, fi_s1, fi_s2, fi_s3, fi_s4, fi_v0, fi_v1, fi_v2, fi_v3, fi_v4, fi_v5, fi_n0, fi_n1, fi_n2, fi_mm, fi_stat, fi_alds, fi_tsw, List.getElem?_cons_zero, List.getElem?_cons_succ, List.set_cons_zero, List.set_cons_succ, List.length_cons, List.length_nil, Option.toList_some, Option.toList_none, List.cons_append, List.nil_append, Value.category, true_and, k_0, k_1, k_2, k_3, k_4, false_implies, true_implies, reduceCtorEq, hM.1]
  refine fs_R_mono (l_fewM hM hT hN h1 nL 0 0 _ _ _ (by omega)) ?_
  rintro r M' ⟨rfl, rfl⟩
  exact ⟨rfl, _, rfl, h1, th_lo _, by simp [fs_u]⟩
end PN5
