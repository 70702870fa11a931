/-! ===== questions to the reference: rain ===== -/
section PN6
variable {g : fs_G} {d : Nat} {S : List fs_Sh} {fr : Bool} {σ : Nat → Nat → Int32} {τ : Nat → Nat → Int64} {V : Vt} {nL nA nS kp nb : Nat}
theorem v_rains (hM : shM S 56) (hT : okT V nL nA nS) (hN : okN V nS (V 4)) (h : IM σ V kp nb) (rain : Int32) : fs_Ct g m_X9_rains [.ref 56, .int rain] ((S, fr), σ, τ) (fun x M' => x = none ∧ ∃ σ', M' = ((S, fr), σ', τ) ∧ IM σ' V kp nb ∧ (∀ a, a < 56 ∨ 69 ≤ a → σ' a = σ a) ∧ σ' 56 0 = σ 56 0 ∧ σ' 56 26 = nI (rnV V nS rain).1 ∧ σ' 56 27 = (rnV V nS rain).2.1 ∧ ∀ j, j < (rnV V nS rain).1 → σ' 65 j = (rnV V nS rain).2.2 j) := by
  have hn := hT.2.2.2.2.2.1
  refine fs_enterC (by decide) (by simp [fs_ok]) (Nat.le_of_ble_eq_true rfl) (fun d => S_X9_rains_0 ?_)
  show T_X9_rains_0 g d _ [.ref 56, .int rain, .null, .null] [] _
  simp only [T_X9_rains_0, fi_const, fi_iload, fi_aload, fi_istore, fi_astore, fi_iinc, fi_bin, fi_div, fi_un, fi_dup, fi_dup2, fi_pop, fi_if, fi_cmp, fi_getf, fi_putf, fi_putr, fi_ald, fi_ast, fi_alen, fi_iret, fi_zret, fi_vret, fi_cut, fi_no, fi_s0, fi_s1, fi_s2, fi_s3, fi_s4, fi_v0, fi_v1, fi_v2, fi_v3, fi_v4, fi_v5, fi_n0, fi_n1, fi_n2, fi_mm, fi_stat, fi_alds, fi_tsw, List.getElem?_cons_zero, List.getElem?_cons_succ, List.set_cons_zero, List.set_cons_succ, List.length_cons, List.length_nil, Option.toList_some, Option.toList_none, List.cons_append, List.nil_append, Value.category, true_and, k_0, k_1, k_2, k_3, k_4, false_implies, true_implies, reduceCtorEq]
  refine ⟨by decide, ⟨_, hM.1⟩, (v_lays hM hT h).mono ?_⟩
  rintro r M' ⟨rfl, σ1, rfl, h1, hs1, s0, hl, -⟩
  simp only [fi_const, fi_iload, fi_aload, fi_istore, fi_astore, fi_iinc, fi_bin, fi_div, fi_un, fi_dup, fi_dup2, fi_pop, fi_if, fi_cmp, fi_getf, fi_putf, fi_putr, fi_ald, fi_ast, fi_alen, fi_iret, fi_zret, fi_vret, fi_cut, fi_no, fi_s0, fi_s1, fi_s2, fi_s3, fi_s4, fi_v0, fi_v1, fi_v2, fi_v3, fi_v4, fi_v5, fi_n0, fi_n1, fi_n2, fi_mm, fi_stat, fi_alds, fi_tsw, List.getElem?_cons_zero, List.getElem?_cons_succ, List.set_cons_zero, List.set_cons_succ, List.length_cons, List.length_nil, Option.toList_some, Option.toList_none, List.cons_append, List.nil_append, Value.category, true_and, k_0, k_1, k_2, k_3, k_4, false_implies, true_implies, reduceCtorEq, hM.1]
  have h2 : IM (fs_u (fs_u σ1 56 26 0) 56 27 0) V kp nb := (h1.u (Or.inl ⟨rfl, by decide, by decide, by decide⟩)).u (Or.inl ⟨rfl, by decide, by decide, by decide⟩)
  have hc : fs_u (fs_u σ1 56 26 0) 56 27 0 58 82 = nI nS := (congrFun h2.1 82).trans hT.2.2.1
  refine ⟨by decide, ⟨_, rfl⟩, (c_spanNow hM hn hc).mono ?_⟩
  rintro r M' ⟨rfl, rfl⟩
  simp only [fi_const, fi_iload, fi_aload, fi_istore, fi_astore, fi_iinc, fi_bin, fi_div, fi_un, fi_dup, fi_dup2, fi_pop, fi_if, fi_cmp, fi_getf, fi_putf, fi_putr, fi_ald, fi_ast, fi_alen, fi_iret, fi_zret, fi_vret, fi_cut, fi_no, fi_s0, fi_s1, fi_s2, fi_s3, fi_s4, fi_v0, fi_v1, fi_v2, fi_v3, fi_v4, fi_v5, fi_n0, fi_n1, fi_n2, fi_mm, fi_stat, fi_alds, fi_tsw, List.getElem?_cons_zero, List.getElem?_cons_succ, List.set_cons_zero, List.set_cons_succ, List.length_cons, List.length_nil, Option.toList_some, Option.toList_none, List.cons_append, List.nil_append, Value.category, true_and, k_0, k_1, k_2, k_3, k_4, false_implies, true_implies, reduceCtorEq]
  have hH : rnH (fs_u (fs_u σ1 56 26 0) 56 27 0) 56 nS 0 := by
    refine ⟨hc, fun e he => ?_, ?_, ?_, ?_, ?_, by omega, by simp [fs_u]; rfl, fun j hj => by omega⟩
    · rw [fs_u_ne (by decide), fs_u_ne (by decide), fs_u_ne (by decide), fs_u_ne (by decide), fs_u_ne (by decide), fs_u_ne (by decide)]
      exact hl e he
    · rw [show 56 + 2 = 58 from rfl, h2.1]; exact hT.2.2.2.2.2.2.2.1
    · rw [show 56 + 2 = 58 from rfl, h2.1]; exact hT.2.2.2.2.2.2.1
    · rw [show 56 + 2 = 58 from rfl, show 56 + 4 = 60 from rfl, h2.1, h2.2.1]; exact ok_plOK hT hN
    · rw [show 56 + 2 = 58 from rfl, show 56 + 4 = 60 from rfl, h2.1, h2.2.1]; exact ok_iff hT hN
  have := l_rains (d := d) (g := g) (fr := fr) (τ := τ) hM hn rain _ hH 36 0 (fs_u (fs_u σ1 56 26 0) 56 27 0) (fun _ => 0) (qqF (spF (fun e => scF (fr_ (fs_u (fs_u σ1 56 26 0) 56 27 0 (56 + 4)) 4) e nS) 12)) .null rfl (fun _ _ _ _ => rfl) (by simp [fs_u]; rfl) (qq_d12 (spF_le _ 12)) (Or.inl (by decide)) (fun j hj => by omega) (fun j hj => by omega)
  refine fs_R_mono this ?_
  have e27 : fs_u (fs_u σ1 56 26 0) 56 27 0 56 27 = 0 := by simp [fs_u]
  have esc : r_sc (fs_u (fs_u σ1 56 26 0) 56 27 0) 56 nS = fun e => scF (v_dy V) e nS := by
    funext e
    show scF (fr_ (fs_u (fs_u σ1 56 26 0) 56 27 0 60) 4) e nS = _
    rw [h2.2.1]
  have ecs : r_cs (fs_u (fs_u σ1 56 26 0) 56 27 0) 56 nS = fun e => caF (v_dy V) (v_ca V) e nS := by
    funext e
    show caF (fr_ (fs_u (fs_u σ1 56 26 0) 56 27 0 60) 4) (fr_ (fs_u (fs_u σ1 56 26 0) 56 27 0 58) 66) e nS = _
    rw [h2.2.1, h2.1]
  simp only [esc, ecs, r_pl, r_ni, r_in, tiC, if_true, show 56 + 2 = 58 from rfl, show 56 + 4 = 60 from rfl, show 56 + 9 = 65 from rfl, h2.1, h2.2.1, e27]
  rintro r M' ⟨rfl, σ3, rfl, hs3, t1, t2, t3⟩
  refine ⟨rfl, σ3, rfl, h2.sc (fun a b hab => hs3 a b (by omega) (by omega)), fun a ha => ?_, ?_, t1, t2, t3⟩
  · funext b
    rw [hs3 a b (by omega) (by omega), fs_u_ne (by omega), fs_u_ne (by omega), hs1 a ha]
  · rw [hs3 56 0 (by omega) (by omega), ← s0]; simp [fs_u]
theorem c_isRainM (x : Int32) {M : fs_M} : fs_Ct g m_X9_isRain [.int x] M (fun r M' => r = some (.int (bI (decide (raI x)))) ∧ M = M') := by
  refine fs_enterC (by decide) (by simp [fs_ok]) (Nat.le_of_ble_eq_true rfl) (fun d => S_X9_isRain_0 ?_)
  show T_X9_isRain_0 g d _ [.int x] [] _
  simp only [T_X9_isRain_0, fi_const, fi_iload, fi_aload, fi_istore, fi_astore, fi_iinc, fi_bin, fi_div, fi_un, fi_dup, fi_dup2, fi_pop, fi_if, fi_cmp, fi_getf, fi_putf, fi_putr, fi_ald, fi_ast, fi_alen, fi_iret, fi_zret, fi_vret, fi_cut, fi_no, fi_s0, fi_s1, fi_s2, fi_s3, fi_s4, fi_v0, fi_v1, fi_v2, fi_v3, fi_v4, fi_v5, fi_n0, fi_n1, fi_n2, fi_mm, fi_stat, fi_alds, fi_tsw, List.getElem?_cons_zero, List.getElem?_cons_succ, List.set_cons_zero, List.set_cons_succ, List.length_cons, List.length_nil, Option.toList_some, Option.toList_none, List.cons_append, List.nil_append, Value.category, true_and, k_0, k_1, k_2, k_3, k_4, false_implies, true_implies, reduceCtorEq]
  have e : 4096 ≤ x ↔ 4095 < x := by
    rw [Int32.lt_iff_toInt_lt, Int32.le_iff_toInt_le]
    have h1 : (4096 : Int32).toInt = 4096 := rfl
    have h2 : (4095 : Int32).toInt = 4095 := rfl
    omega
  refine ⟨fun q => ?_, fun q => ⟨fun q2 => ?_, fun q2 => ?_⟩⟩
  · rw [decide_eq_false (fun z => z.1 q)]; simp [bI]
  · rw [decide_eq_false (fun z => z.2 (e.mp q2))]; simp [bI]
  · rw [decide_eq_true (show raI x from ⟨q, fun z => q2 (e.mpr z)⟩)]; simp [bI]
theorem b_rainDays (hX : shX S) (hT : okT V nL nA nS) (hN : okN V nS (V 4)) (x : Int32) : askM g S fr τ V kp nb m_X9_rainDays [.ref 56, .int x] (rdV V nS x) 0 := by
  intro σ h
  have hM := hX.m
  have h1 := h.th 0
  refine fs_enterC (by decide) (by simp [fs_ok]) (Nat.le_of_ble_eq_true rfl) (fun d => S_X9_rainDays_0 ?_)
  show T_X9_rainDays_0 g d _ [.ref 56, .int x] [] _
  simp only [T_X9_rainDays_0, fi_const, fi_iload, fi_aload, fi_istore, fi_astore, fi_iinc, fi_bin, fi_div, fi_un, fi_dup, fi_dup2, fi_pop, fi_if, fi_cmp, fi_getf, fi_putf, fi_putr, fi_ald, fi_ast, fi_alen, fi_iret, fi_zret, fi_vret, fi_cut, fi_no, fi_s0, fi_s1, fi_s2, fi_s3, fi_s4, fi_v0, fi_v1, fi_v2, fi_v3, fi_v4, fi_v5, fi_n0, fi_n1, fi_n2, fi_mm, fi_stat, fi_alds, fi_tsw, List.getElem?_cons_zero, List.getElem?_cons_succ, List.set_cons_zero, List.set_cons_succ, List.length_cons, List.length_nil, Option.toList_some, Option.toList_none, List.cons_append, List.nil_append, Value.category, true_and, k_0, k_1, k_2, k_3, k_4, false_implies, true_implies, reduceCtorEq]
  simp only [fi_const, fi_iload, fi_aload, fi_istore, fi_astore, fi_iinc, fi_bin, fi_div, fi_un, fi_dup, fi_dup2, fi_pop, fi_if, fi_cmp, fi_getf, fi_putf, fi_putr, fi_ald, fi_ast, fi_alen, fi_iret, fi_zret, fi_vret, fi_cut, fi_no, fi_s0, fi_s1, fi_s2, fi_s3, fi_s4, fi_v0, fi_v1, fi_v2, fi_v3, fi_v4, fi_v5, fi_n0, fi_n1, fi_n2, fi_mm, fi_stat, fi_alds, fi_tsw, List.getElem?_cons_zero, List.getElem?_cons_succ, List.set_cons_zero, List.set_cons_succ, List.length_cons, List.length_nil, Option.toList_some, Option.toList_none, List.cons_append, List.nil_append, Value.category, true_and, k_0, k_1, k_2, k_3, k_4, false_implies, true_implies, reduceCtorEq, hM.1]
  refine ⟨by decide, (c_isRainM x).mono ?_⟩
  rintro r M' ⟨rfl, rfl⟩
  simp only [fi_const, fi_iload, fi_aload, fi_istore, fi_astore, fi_iinc, fi_bin, fi_div, fi_un, fi_dup, fi_dup2, fi_pop, fi_if, fi_cmp, fi_getf, fi_putf, fi_putr, fi_ald, fi_ast, fi_alen, fi_iret, fi_zret, fi_vret, fi_cut, fi_no, fi_s0, fi_s1, fi_s2, fi_s3, fi_s4, fi_v0, fi_v1, fi_v2, fi_v3, fi_v4, fi_v5, fi_n0, fi_n1, fi_n2, fi_mm, fi_stat, fi_alds, fi_tsw, List.getElem?_cons_zero, List.getElem?_cons_succ, List.set_cons_zero, List.set_cons_succ, List.length_cons, List.length_nil, Option.toList_some, Option.toList_none, List.cons_append, List.nil_append, Value.category, true_and, k_0, k_1, k_2, k_3, k_4, false_implies, true_implies, reduceCtorEq, bI_eq0, decide_eq_false_iff_not]
  unfold rdV
  refine ⟨fun q => ?_, fun q => ?_⟩
  · rw [if_neg q]; exact ⟨rfl, _, rfl, h1, th_lo _, by simp [fs_u]⟩
  · rw [if_pos (Decidable.of_not_not q)]
    refine ⟨by decide, ⟨_, hM.1⟩, (v_rains hM hT hN h1 x).mono ?_⟩
    rintro r M' ⟨rfl, σ', rfl, h', hs, s0, s1, -⟩
    simp only [fi_const, fi_iload, fi_aload, fi_istore, fi_astore, fi_iinc, fi_bin, fi_div, fi_un, fi_dup, fi_dup2, fi_pop, fi_if, fi_cmp, fi_getf, fi_putf, fi_putr, fi_ald, fi_ast, fi_alen, fi_iret, fi_zret, fi_vret, fi_cut, fi_no, fi_s0, fi_s1, fi_s2, fi_s3, fi_s4, fi_v0, fi_v1, fi_v2, fi_v3, fi_v4, fi_v5, fi_n0, fi_n1, fi_n2, fi_mm, fi_stat, fi_alds, fi_tsw, List.getElem?_cons_zero, List.getElem?_cons_succ, List.set_cons_zero, List.set_cons_succ, List.length_cons, List.length_nil, Option.toList_some, Option.toList_none, List.cons_append, List.nil_append, Value.category, true_and, k_0, k_1, k_2, k_3, k_4, false_implies, true_implies, reduceCtorEq, hM.1, s1]
    exact ⟨σ', rfl, h', fun b hb => (hs b hb).trans (th_lo _ b hb), by rw [s0]; simp [fs_u]⟩
theorem b_rainLost (hX : shX S) (hT : okT V nL nA nS) (hN : okN V nS (V 4)) (x : Int32) : askM g S fr τ V kp nb m_X9_rainLost [.ref 56, .int x] (rlV V nS x) 0 := by
  intro σ h
  have hM := hX.m
  have h1 := h.th 0
  refine fs_enterC (by decide) (by simp [fs_ok]) (Nat.le_of_ble_eq_true rfl) (fun d => S_X9_rainLost_0 ?_)
  show T_X9_rainLost_0 g d _ [.ref 56, .int x] [] _
  simp only [T_X9_rainLost_0, fi_const, fi_iload, fi_aload, fi_istore, fi_astore, fi_iinc, fi_bin, fi_div, fi_un, fi_dup, fi_dup2, fi_pop, fi_if, fi_cmp, fi_getf, fi_putf, fi_putr, fi_ald, fi_ast, fi_alen, fi_iret, fi_zret, fi_vret, fi_cut, fi_no, fi_s0, fi_s1, fi_s2, fi_s3, fi_s4, fi_v0, fi_v1, fi_v2, fi_v3, fi_v4, fi_v5, fi_n0, fi_n1, fi_n2, fi_mm, fi_stat, fi_alds, fi_tsw, List.getElem?_cons_zero, List.getElem?_cons_succ, List.set_cons_zero, List.set_cons_succ, List.length_cons, List.length_nil, Option.toList_some, Option.toList_none, List.cons_append, List.nil_append, Value.category, true_and, k_0, k_1, k_2, k_3, k_4, false_implies, true_implies, reduceCtorEq]
  simp only [fi_const, fi_iload, fi_aload, fi_istore, fi_astore, fi_iinc, fi_bin, fi_div, fi_un, fi_dup, fi_dup2, fi_pop, fi_if, fi_cmp, fi_getf, fi_putf, fi_putr, fi_ald, fi_ast, fi_alen, fi_iret, fi_zret, fi_vret, fi_cut, fi_no, fi_s0, fi_s1, fi_s2, fi_s3, fi_s4, fi_v0, fi_v1, fi_v2, fi_v3, fi_v4, fi_v5, fi_n0, fi_n1, fi_n2, fi_mm, fi_stat, fi_alds, fi_tsw, List.getElem?_cons_zero, List.getElem?_cons_succ, List.set_cons_zero, List.set_cons_succ, List.length_cons, List.length_nil, Option.toList_some, Option.toList_none, List.cons_append, List.nil_append, Value.category, true_and, k_0, k_1, k_2, k_3, k_4, false_implies, true_implies, reduceCtorEq, hM.1]
  refine ⟨by decide, (c_isRainM x).mono ?_⟩
  rintro r M' ⟨rfl, rfl⟩
  simp only [fi_const, fi_iload, fi_aload, fi_istore, fi_astore, fi_iinc, fi_bin, fi_div, fi_un, fi_dup, fi_dup2, fi_pop, fi_if, fi_cmp, fi_getf, fi_putf, fi_putr, fi_ald, fi_ast, fi_alen, fi_iret, fi_zret, fi_vret, fi_cut, fi_no, fi_s0, fi_s1, fi_s2, fi_s3, fi_s4, fi_v0, fi_v1, fi_v2, fi_v3, fi_v4, fi_v5, fi_n0, fi_n1, fi_n2, fi_mm, fi_stat, fi_alds, fi_tsw, List.getElem?_cons_zero, List.getElem?_cons_succ, List.set_cons_zero, List.set_cons_succ, List.length_cons, List.length_nil, Option.toList_some, Option.toList_none, List.cons_append, List.nil_append, Value.category, true_and, k_0, k_1, k_2, k_3, k_4, false_implies, true_implies, reduceCtorEq, bI_eq0, decide_eq_false_iff_not]
  unfold rlV
  refine ⟨fun q => ?_, fun q => ?_⟩
  · rw [if_neg q]; exact ⟨rfl, _, rfl, h1, th_lo _, by simp [fs_u]⟩
  · rw [if_pos (Decidable.of_not_not q)]
    refine ⟨by decide, ⟨_, hM.1⟩, (v_rains hM hT hN h1 x).mono ?_⟩
    rintro r M' ⟨rfl, σ', rfl, h', hs, s0, s1, s2, -⟩
    simp only [fi_const, fi_iload, fi_aload, fi_istore, fi_astore, fi_iinc, fi_bin, fi_div, fi_un, fi_dup, fi_dup2, fi_pop, fi_if, fi_cmp, fi_getf, fi_putf, fi_putr, fi_ald, fi_ast, fi_alen, fi_iret, fi_zret, fi_vret, fi_cut, fi_no, fi_s0, fi_s1, fi_s2, fi_s3, fi_s4, fi_v0, fi_v1, fi_v2, fi_v3, fi_v4, fi_v5, fi_n0, fi_n1, fi_n2, fi_mm, fi_stat, fi_alds, fi_tsw, List.getElem?_cons_zero, List.getElem?_cons_succ, List.set_cons_zero, List.set_cons_succ, List.length_cons, List.length_nil, Option.toList_some, Option.toList_none, List.cons_append, List.nil_append, Value.category, true_and, k_0, k_1, k_2, k_3, k_4, false_implies, true_implies, reduceCtorEq, hM.1, s2]
    exact ⟨σ', rfl, h', fun b hb => (hs b hb).trans (th_lo _ b hb), by rw [s0]; simp [fs_u]⟩
theorem b_rainDay (hX : shX S) (hT : okT V nL nA nS) (hN : okN V nS (V 4)) (x y : Int32) : askM g S fr τ V kp nb m_X9_rainDay [.ref 56, .int x, .int y] (rcV V nS x y) 0 := by
  intro σ h
  have hM := hX.m
  have h1 := h.th 0
  refine fs_enterC (by decide) (by simp [fs_ok]) (Nat.le_of_ble_eq_true rfl) (fun d => S_X9_rainDay_0 ?_)
  show T_X9_rainDay_0 g d _ [.ref 56, .int x, .int y] [] _
  simp only [T_X9_rainDay_0, fi_const, fi_iload, fi_aload, fi_istore, fi_astore, fi_iinc, fi_bin, fi_div, fi_un, fi_dup, fi_dup2, fi_pop, fi_if, fi_cmp, fi_getf, fi_putf, fi_putr, fi_ald, fi_ast, fi_alen, fi_iret, fi_zret, fi_vret, fi_cut, fi_no, fi_s0, fi_s1, fi_s2, fi_s3, fi_s4, fi_v0, fi_v1, fi_v2, fi_v3, fi_v4, fi_v5, fi_n0, fi_n1, fi_n2, fi_mm, fi_stat, fi_alds, fi_tsw, List.getElem?_cons_zero, List.getElem?_cons_succ, List.set_cons_zero, List.set_cons_succ, List.length_cons, List.length_nil, Option.toList_some, Option.toList_none, List.cons_append, List.nil_append, Value.category, true_and, k_0, k_1, k_2, k_3, k_4, false_implies, true_implies, reduceCtorEq]
  simp only [fi_const, fi_iload, fi_aload, fi_istore, fi_astore, fi_iinc, fi_bin, fi_div, fi_un, fi_dup, fi_dup2, fi_pop, fi_if, fi_cmp, fi_getf, fi_putf, fi_putr, fi_ald, fi_ast, fi_alen, fi_iret, fi_zret, fi_vret, fi_cut, fi_no, fi_s0, fi_s1, fi_s2, fi_s3, fi_s4, fi_v0, fi_v1, fi_v2, fi_v3, fi_v4, fi_v5, fi_n0, fi_n1, fi_n2, fi_mm, fi_stat, fi_alds, fi_tsw, List.getElem?_cons_zero, List.getElem?_cons_succ, List.set_cons_zero, List.set_cons_succ, List.length_cons, List.length_nil, Option.toList_some, Option.toList_none, List.cons_append, List.nil_append, Value.category, true_and, k_0, k_1, k_2, k_3, k_4, false_implies, true_implies, reduceCtorEq, hM.1]
  refine ⟨by decide, (c_isRainM x).mono ?_⟩
  rintro r M' ⟨rfl, rfl⟩
  simp only [fi_const, fi_iload, fi_aload, fi_istore, fi_astore, fi_iinc, fi_bin, fi_div, fi_un, fi_dup, fi_dup2, fi_pop, fi_if, fi_cmp, fi_getf, fi_putf, fi_putr, fi_ald, fi_ast, fi_alen, fi_iret, fi_zret, fi_vret, fi_cut, fi_no, fi_s0, fi_s1, fi_s2, fi_s3, fi_s4, fi_v0, fi_v1, fi_v2, fi_v3, fi_v4, fi_v5, fi_n0, fi_n1, fi_n2, fi_mm, fi_stat, fi_alds, fi_tsw, List.getElem?_cons_zero, List.getElem?_cons_succ, List.set_cons_zero, List.set_cons_succ, List.length_cons, List.length_nil, Option.toList_some, Option.toList_none, List.cons_append, List.nil_append, Value.category, true_and, k_0, k_1, k_2, k_3, k_4, false_implies, true_implies, reduceCtorEq, bI_eq0, decide_eq_false_iff_not, i0_le]
  unfold rcV
  refine ⟨fun q => ?_, fun q => ⟨fun q2 => ?_, fun q2 => ?_⟩⟩
  · rw [if_neg (fun z => q z.1)]; exact ⟨rfl, _, rfl, h1, th_lo _, by simp [fs_u]⟩
  · rw [if_pos ⟨Decidable.of_not_not q, q2⟩]
    refine ⟨by decide, ⟨_, hM.1⟩, (v_rains hM hT hN h1 x).mono ?_⟩
    rintro r M' ⟨rfl, σ', rfl, h', hs, s0, s1, s2, s3⟩
    simp only [fi_const, fi_iload, fi_aload, fi_istore, fi_astore, fi_iinc, fi_bin, fi_div, fi_un, fi_dup, fi_dup2, fi_pop, fi_if, fi_cmp, fi_getf, fi_putf, fi_putr, fi_ald, fi_ast, fi_alen, fi_iret, fi_zret, fi_vret, fi_cut, fi_no, fi_s0, fi_s1, fi_s2, fi_s3, fi_s4, fi_v0, fi_v1, fi_v2, fi_v3, fi_v4, fi_v5, fi_n0, fi_n1, fi_n2, fi_mm, fi_stat, fi_alds, fi_tsw, List.getElem?_cons_zero, List.getElem?_cons_succ, List.set_cons_zero, List.set_cons_succ, List.length_cons, List.length_nil, Option.toList_some, Option.toList_none, List.cons_append, List.nil_append, Value.category, true_and, k_0, k_1, k_2, k_3, k_4, false_implies, true_implies, reduceCtorEq, hM.1, s1, hM.2.2.2.2.2.2.2.2.2.1]
    have e36 := rn_36 V nS x
    refine ⟨fun q3 => ?_, fun q3 => ?_⟩
    · rw [if_pos q3]
      exact ⟨rfl, σ', rfl, h', fun b hb => (hs b hb).trans (th_lo _ b hb), by rw [s0]; simp [fs_u]⟩
    · rw [if_neg q3]
      have hlt := cl_lt q2 q3 (by omega)
      obtain ⟨j, hj, rfl⟩ := nI_of q2
      rw [nI_clamp hj] at hlt ⊢
      exact ⟨vp_in_nI (by omega) (by decide), congrArg _ (congrArg _ (s3 j hlt)), σ', rfl, h', fun b hb => (hs b hb).trans (th_lo _ b hb), by rw [s0]; simp [fs_u]⟩
  · rw [if_neg (fun z => q2 z.2)]; exact ⟨rfl, _, rfl, h1, th_lo _, by simp [fs_u]⟩
theorem l_worstM (hM : shM S 56) (hT : okT V nL nA nS) (hN : okN V nS (V 4)) : ∀ n e w l σ, e + n = 12 → IM σ V kp nb → fs_R g m_X9_worstRain d (0, 0) 11 [.ref 56, .int w, .int l, .int (nI e)] [] ((S, fr), σ, τ) (fun r M' => r = some (.int (wrF (fun e => nI (rnV V nS (1 <<< (nI e &&& 31))).1) n e w l)) ∧ ∃ σ', M' = ((S, fr), σ', τ) ∧ IM σ' V kp nb ∧ (∀ a, a < 56 ∨ 69 ≤ a → σ' a = σ a) ∧ σ' 56 0 = σ 56 0)
  | 0, e, w, l, σ, he, h => by
    refine S_X9_worstRain_11 ?_
    simp only [T_X9_worstRain_11, fi_const, fi_iload, fi_aload, fi_istore, fi_astore, fi_iinc, fi_bin, fi_div, fi_un, fi_dup, fi_dup2, fi_pop, fi_if, fi_cmp, fi_getf, fi_putf, fi_putr, fi_ald, fi_ast, fi_alen, fi_iret, fi_zret, fi_vret, fi_cut, fi_no, fi_s0, fi_s1, fi_s2, fi_s3, fi_s4, fi_v0, fi_v1, fi_v2, fi_v3, fi_v4, fi_v5, fi_n0, fi_n1, fi_n2, fi_mm, fi_stat, fi_alds, fi_tsw, List.getElem?_cons_zero, List.getElem?_cons_succ, List.set_cons_zero, List.set_cons_succ, List.length_cons, List.length_nil, Option.toList_some, Option.toList_none, List.cons_append, List.nil_append, Value.category, true_and, k_0, k_1, k_2, k_3, k_4, false_implies, true_implies, reduceCtorEq]
    refine pk_le 12 e (fun _ => ?_) (fun z => by omega)
    exact ⟨rfl, σ, rfl, h, fun _ _ => rfl, rfl⟩
  | n + 1, e, w, l, σ, he, h => by
    refine S_X9_worstRain_11 ?_
    simp only [T_X9_worstRain_11, fi_const, fi_iload, fi_aload, fi_istore, fi_astore, fi_iinc, fi_bin, fi_div, fi_un, fi_dup, fi_dup2, fi_pop, fi_if, fi_cmp, fi_getf, fi_putf, fi_putr, fi_ald, fi_ast, fi_alen, fi_iret, fi_zret, fi_vret, fi_cut, fi_no, fi_s0, fi_s1, fi_s2, fi_s3, fi_s4, fi_v0, fi_v1, fi_v2, fi_v3, fi_v4, fi_v5, fi_n0, fi_n1, fi_n2, fi_mm, fi_stat, fi_alds, fi_tsw, List.getElem?_cons_zero, List.getElem?_cons_succ, List.set_cons_zero, List.set_cons_succ, List.length_cons, List.length_nil, Option.toList_some, Option.toList_none, List.cons_append, List.nil_append, Value.category, true_and, k_0, k_1, k_2, k_3, k_4, false_implies, true_implies, reduceCtorEq]
    refine pk_le 12 e (fun z => by omega) (fun _ => ⟨by decide, ⟨_, hM.1⟩, (v_rains hM hT hN h _).mono ?_⟩)
    rintro r M' ⟨rfl, σ', rfl, h', hs, s0, s1, -⟩
    simp only [fi_const, fi_iload, fi_aload, fi_istore, fi_astore, fi_iinc, fi_bin, fi_div, fi_un, fi_dup, fi_dup2, fi_pop, fi_if, fi_cmp, fi_getf, fi_putf, fi_putr, fi_ald, fi_ast, fi_alen, fi_iret, fi_zret, fi_vret, fi_cut, fi_no, fi_s0, fi_s1, fi_s2, fi_s3, fi_s4, fi_v0, fi_v1, fi_v2, fi_v3, fi_v4, fi_v5, fi_n0, fi_n1, fi_n2, fi_mm, fi_stat, fi_alds, fi_tsw, List.getElem?_cons_zero, List.getElem?_cons_succ, List.set_cons_zero, List.set_cons_succ, List.length_cons, List.length_nil, Option.toList_some, Option.toList_none, List.cons_append, List.nil_append, Value.category, true_and, k_0, k_1, k_2, k_3, k_4, false_implies, true_implies, reduceCtorEq, nI_1, hM.1, s1]
    refine ⟨fun q => ?_, fun q => ?_⟩
    · refine fs_R_mono (l_worstM hM hT hN n (e + 1) _ _ σ' (by omega) h') ?_
      rintro r M' ⟨rfl, σ2, rfl, h2, hs2, s2⟩
      exact ⟨by rw [wrF, if_neg (by rw [Int32.lt_iff_toInt_lt] at q; rw [Int32.le_iff_toInt_le]; omega)], σ2, rfl, h2, fun a ha => (hs2 a ha).trans (hs a ha), s2.trans s0⟩
    · refine fs_R_mono (l_worstM hM hT hN n (e + 1) _ _ σ' (by omega) h') ?_
      rintro r M' ⟨rfl, σ2, rfl, h2, hs2, s2⟩
      exact ⟨by rw [wrF, if_pos (by rw [Int32.lt_iff_toInt_lt] at q; rw [Int32.le_iff_toInt_le]; omega)], σ2, rfl, h2, fun a ha => (hs2 a ha).trans (hs a ha), s2.trans s0⟩
theorem b_worstRain (hX : shX S) (hT : okT V nL nA nS) (hN : okN V nS (V 4)) : askM g S fr τ V kp nb m_X9_worstRain [.ref 56] (wrV V nS) 0 := by
  intro σ h
  have hM := hX.m
  have h1 := h.th 0
  refine fs_enterC (by decide) (by simp [fs_ok]) (Nat.le_of_ble_eq_true rfl) (fun d => S_X9_worstRain_0 ?_)
  show T_X9_worstRain_0 g d _ [.ref 56, .null, .null, .null] [] _
  simp only [T_X9_worstRain_0, fi_const, fi_iload, fi_aload, fi_istore, fi_astore, fi_iinc, fi_bin, fi_div, fi_un, fi_dup, fi_dup2, fi_pop, fi_if, fi_cmp, fi_getf, fi_putf, fi_putr, fi_ald, fi_ast, fi_alen, fi_iret, fi_zret, fi_vret, fi_cut, fi_no, fi_s0, fi_s1, fi_s2, fi_s3, fi_s4, fi_v0, fi_v1, fi_v2, fi_v3, fi_v4, fi_v5, fi_n0, fi_n1, fi_n2, fi_mm, fi_stat, fi_alds, fi_tsw, List.getElem?_cons_zero, List.getElem?_cons_succ, List.set_cons_zero, List.set_cons_succ, List.length_cons, List.length_nil, Option.toList_some, Option.toList_none, List.cons_append, List.nil_append, Value.category, true_and, k_0, k_1, k_2, k_3, k_4, false_implies, true_implies, reduceCtorEq]
  simp only [fi_const, fi_iload, fi_aload, fi_istore, fi_astore, fi_iinc, fi_bin, fi_div, fi_un, fi_dup, fi_dup2, fi_pop, fi_if, fi_cmp, fi_getf, fi_putf, fi_putr, fi_ald, fi_ast, fi_alen, fi_iret, fi_zret, fi_vret, fi_cut, fi_no, fi_s0, fi_s1, fi_s2, fi_s3, fi_s4, fi_v0, fi_v1, fi_v2, fi_v3, fi_v4, fi_v5, fi_n0, fi_n1, fi_n2, fi_mm, fi_stat, fi_alds, fi_tsw, List.getElem?_cons_zero, List.getElem?_cons_succ, List.set_cons_zero, List.set_cons_succ, List.length_cons, List.length_nil, Option.toList_some, Option.toList_none, List.cons_append, List.nil_append, Value.category, true_and, k_0, k_1, k_2, k_3, k_4, false_implies, true_implies, reduceCtorEq, hM.1]
  refine fs_R_mono (l_worstM hM hT hN 12 0 0 (-1) _ rfl h1) ?_
  rintro r M' ⟨rfl, σ', rfl, h', hs, s0⟩
  exact ⟨rfl, σ', rfl, h', fun b hb => (hs b hb).trans (th_lo _ b hb), by rw [s0]; simp [fs_u]⟩
end PN6
