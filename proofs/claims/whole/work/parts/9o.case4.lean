/-! ===== the law: changes ===== -/
section LC4
variable {g : fs_G} {N d i : Nat} {u : Nat × Nat} {fr : Bool} {σ : Nat → Nat → Int32} {τ : Nat → Nat → Int64} {V V' : Vt} {nL nA nS kp nb kp' : Nat} {Q : Option Value → fs_M → Prop} {v5 v6 : Value}
/-- both answer x, and hold some V again -/
def bth (g : fs_G) (fr : Bool) (τ : Nat → Nat → Int64) (σ : Nat → Nat → Int32) (μ μ' : fs_I) (av av' : List Value) : Prop := ∃ x, fs_Ct g μ av ((S70, fr), σ, τ) (fun r M' => r = some (.int x) ∧ ∃ σ1, M' = ((S70, fr), σ1, τ) ∧ fs_Ct g μ' av' ((S70, fr), σ1, τ) (fun r M' => r = some (.int x) ∧ ∃ σ2, M' = ((S70, fr), σ2, τ) ∧ lpP σ2))
theorem q2b (hp : LPs σ V nL nA nS kp nb) {μ μ' : fs_I} {av av' : List Value} {x y : Int32} (ha : askC g S70 fr τ V nL nA nS kp nb μ av x) (hb : askM g S70 fr τ V kp nb μ' av' x y) : bth g fr τ σ μ μ' av av' := by
  refine ⟨x, (q2 hp ha hb).mono ?_⟩
  rintro r M' ⟨rfl, σ1, rfl, hq⟩
  refine ⟨rfl, σ1, rfl, hq.mono ?_⟩
  rintro r M' ⟨rfl, σ2, rfl, h2, -⟩
  exact ⟨rfl, σ2, rfl, V, nL, nA, nS, kp, nb, h2⟩
theorem c2b (hp : LPs σ V nL nA nS kp nb) {μ μ' : fs_I} {av av' : List Value} {x : Int32} (ha : chgC g S70 fr τ V nL nA nS kp nb μ av x V' kp') (hb : chgM g S70 fr τ V kp nb μ' av' x V' kp') (hv : okV V' nL nA nS kp' nb) : bth g fr τ σ μ μ' av av' := by
  obtain ⟨hV, hC, hM⟩ := hp
  refine ⟨x, (ha σ hC).mono ?_⟩
  rintro r M' ⟨rfl, σ1, rfl, h1, s1⟩
  refine ⟨rfl, σ1, rfl, (hb σ1 (hM.hi s1)).mono ?_⟩
  rintro r M' ⟨rfl, σ2, rfl, h2, s2, t2⟩
  exact ⟨rfl, σ2, rfl, V', nL, nA, nS, kp', nb, hv, h1.low (fun a ha => s2 a (by omega)), h2⟩
theorem d2b {nL' nA' nS' nb' : Nat} (hp : LPs σ V nL nA nS kp nb) {μ μ' : fs_I} {av av' : List Value} {x : Int32} (ha : chgD g S70 fr τ V nL nA nS kp nb μ av x V' nL' nA' nS' kp' nb') (hb : chgN g S70 fr τ V kp nb μ' av' x V' kp' nb') (hv : okV V' nL' nA' nS' kp' nb') : bth g fr τ σ μ μ' av av' := by
  obtain ⟨hV, hC, hM⟩ := hp
  refine ⟨x, (ha σ hC).mono ?_⟩
  rintro r M' ⟨rfl, σ1, rfl, h1, s1⟩
  refine ⟨rfl, σ1, rfl, (hb σ1 (hM.hi s1)).mono ?_⟩
  rintro r M' ⟨rfl, σ2, rfl, h2, s2, t2⟩
  exact ⟨rfl, σ2, rfl, V', nL', nA', nS', kp', nb', hv, h1.low (fun a ha => s2 a (by omega)), h2⟩
theorem B_put (hp : LPs σ V nL nA nS kp nb) (x y : Int32) : bth g fr τ σ m_X8_put m_X9_put [.ref 0, .int x, .int y] [.ref 56, .int x, .int y] := by
  obtain ⟨hT, hN, h9, -⟩ := id hp.1
  have hSS := hT.2.2.2.2.2.1
  by_cases q : inI x nS
  · by_cases q2 : inI y 12
    · obtain ⟨k, hk, rfl⟩ := inI_nat q (by omega)
      obtain ⟨e, he, rfl⟩ := inI_nat q2 (by decide)
      by_cases q3 : reV V nS k e = 0
      · exact c2b hp (k_put S70_X S70_S hp.1 hk he q3) (n_put S70_X hp.1 hk he q3) (okV_ch hp.1 (okN_put hT hN hk he q3))
      · exact q2b hp (k_put_5 S70_X hT hN hk he q3) (n_put_5 S70_X hT hk he q3)
    · exact q2b hp (k_put_2 S70_X q q2) (n_put_2 S70_X hT q q2)
  · exact q2b hp (k_put_1 S70_X q) (n_put_1 S70_X hT q)
theorem B_fill (hp : LPs σ V nL nA nS kp nb) : bth g fr τ σ m_X8_fill m_X9_fill [.ref 0] [.ref 56] := c2b hp (k_fill S70_X S70_S hp.1) (n_fill S70_X hp.1) (okV_fill hp.1)
theorem B_feed (hp : LPs σ V nL nA nS kp nb) (a b c f e : Int32) : bth g fr τ σ m_X8_feed m_X9_feed [.ref 0, .int a, .int b, .int c, .int f, .int e] [.ref 56, .int a, .int b, .int c, .int f, .int e] := by
  by_cases q : nb + 20 ≤ 900
  · exact d2b hp (k_feed S70_X hp.1 q) (n_feed S70_X hp.1 q) (okV_fd hp.1 q)
  · exact q2b hp (k_feed_3 S70_X hp.1 q) (n_feed_3 S70_X hp.1 q)
theorem B_take (hp : LPs σ V nL nA nS kp nb) (x : Int32) : bth g fr τ σ m_X8_take m_X9_take [.ref 0, .int x] [.ref 56, .int x] := by
  obtain ⟨hT, hN, h9, -⟩ := id hp.1
  have hSS := hT.2.2.2.2.2.1
  by_cases q : inI x nS ∧ ¬ v_dy V x.toNatClampNeg = -1
  · obtain ⟨q1, q2⟩ := q
    obtain ⟨k, hk, rfl⟩ := inI_nat q1 (by omega)
    rw [nI_clamp (by omega)] at q2
    exact c2b hp (k_take S70_X S70_S hp.1 hk q2) (n_take S70_X hp.1 hk q2) (okV_ch hp.1 (okN_take hN))
  · exact q2b hp (k_take_1 S70_X hT q) (n_take_1 S70_X hT q)
theorem B_setSetting (hp : LPs σ V nL nA nS kp nb) (x v : Int32) : bth g fr τ σ m_X8_setSetting m_X9_setSetting [.ref 0, .int x, .int v] [.ref 56, .int x, .int v] := by
  obtain ⟨hT, hN, h9, -⟩ := id hp.1
  by_cases q : inI x 4 ∧ fitS x.toNatClampNeg v
  · obtain ⟨q1, q2⟩ := q
    obtain ⟨s, hs, rfl⟩ := inI_nat q1 (by decide)
    rw [nI_clamp (by omega)] at q2
    by_cases q3 : s = 0 → capOK V nS v
    · exact c2b hp (k_set S70_X S70_S hp.1 hs q2 q3) (n_set S70_X hp.1 hs q2 q3) (okV_ch hp.1 (okN_set hN hs q2))
    · have h0 : s = 0 := Decidable.byContradiction fun z => q3 (fun w => absurd w z)
      subst h0
      have hc : ¬ capOK V nS v := fun z => q3 (fun _ => z)
      exact q2b hp (k_set_5 S70_X hT q2 hc) (n_set_5 S70_X hT q2 hc)
  · exact q2b hp (k_set_2 S70_X q) (n_set_2 S70_X q)
theorem B_undo (hp : LPs σ V nL nA nS kp nb) : bth g fr τ σ m_X8_undo m_X9_undo [.ref 0] [.ref 56] := by
  cases kp with
  | zero => exact q2b hp (k_undo_0 S70_X) (n_undo_0 S70_X hp.1.2.2.1)
  | succ k => exact c2b hp (k_undo S70_X S70_S hp.1) (n_undo S70_X hp.1) (okV_un hp.1)
theorem B_useBest (hp : LPs σ V nL nA nS kp nb) : bth g fr τ σ m_X8_useBestOrder m_X9_useBestOrder [.ref 0] [.ref 56] := by
  obtain ⟨hT, hN, h9, -⟩ := id hp.1
  by_cases q : 0 ≤ bcV V nA nS
  · by_cases h7 : nDV V nS ≤ 7
    · cases hm : bsV V nA nS with
      | none =>
        have : bcV V nA nS = -1 := by unfold bcV; rw [if_neg (by omega), hm]
        rw [this] at q; exact absurd q (by decide)
      | some m => exact c2b hp (k_useBest S70_X S70_S hp.1 h7 hm) (n_useBest S70_X hp.1 h7 hm) (okV_ch hp.1 (okN_st hT hN h7 (bs_gd hm)))
    · have : bcV V nA nS = -4 := by unfold bcV; rw [if_pos (by omega)]
      rw [this] at q; exact absurd q (by decide)
  · exact q2b hp (k_useBest_x S70_X S70_S hp.1 q) (n_useBest_x S70_X hp.1 q)
theorem L_put (hp : LPs σ V nL nA nS kp nb) (hi : i < N) (hu : bd u i) (hx : scO g i) (K : nxt g N d i Q) : fs_R g (m_L_law N) d u 1856 (lls i v5 v6) [] ((S70, fr), σ, τ) Q := by
  obtain ⟨x, hb⟩ := B_put (g := g) (fr := fr) (τ := τ) hp (fs_Xs g (6 * i + 1)) (fs_Xs g (6 * i + 2))
  refine S_L_law_1856 (hu.B hi) ?_
  simp only [T_L_law_1856, lls, fi_scr, sc_1, sc_2, scI hx (show 1 < 6 by decide), scI hx (show 2 < 6 by decide), scC hx (show 1 < 6 by decide), scC hx (show 2 < 6 by decide), fi_const, fi_iload, fi_aload, fi_istore, fi_astore, fi_iinc, fi_bin, fi_div, fi_un, fi_dup, fi_dup2, fi_pop, fi_if, fi_cmp, fi_getf, fi_putf, fi_putr, fi_ald, fi_ast, fi_alen, fi_iret, fi_zret, fi_vret, fi_cut, fi_no, fi_s0, fi_s1, fi_s2, fi_s3, fi_s4, fi_v0, fi_v1, fi_v2, fi_v3, fi_v4, fi_v5, fi_n0, fi_n1, fi_n2, fi_mm, fi_stat, fi_alds, fi_tsw, List.getElem?_cons_zero, List.getElem?_cons_succ, List.set_cons_zero, List.set_cons_succ, List.length_cons, List.length_nil, Option.toList_some, Option.toList_none, List.cons_append, List.nil_append, Value.category, true_and, k_0, k_1, k_2, k_3, k_4, false_implies, true_implies, reduceCtorEq]
  refine ⟨by decide, ⟨_, S70_X.1⟩, hb.mono ?_⟩
  rintro r M' ⟨rfl, σ1, rfl, hq⟩
  simp only [fi_scr, sc_1, sc_2, scI hx (show 1 < 6 by decide), scI hx (show 2 < 6 by decide), scC hx (show 1 < 6 by decide), scC hx (show 2 < 6 by decide), fi_const, fi_iload, fi_aload, fi_istore, fi_astore, fi_iinc, fi_bin, fi_div, fi_un, fi_dup, fi_dup2, fi_pop, fi_if, fi_cmp, fi_getf, fi_putf, fi_putr, fi_ald, fi_ast, fi_alen, fi_iret, fi_zret, fi_vret, fi_cut, fi_no, fi_s0, fi_s1, fi_s2, fi_s3, fi_s4, fi_v0, fi_v1, fi_v2, fi_v3, fi_v4, fi_v5, fi_n0, fi_n1, fi_n2, fi_mm, fi_stat, fi_alds, fi_tsw, List.getElem?_cons_zero, List.getElem?_cons_succ, List.set_cons_zero, List.set_cons_succ, List.length_cons, List.length_nil, Option.toList_some, Option.toList_none, List.cons_append, List.nil_append, Value.category, true_and, k_0, k_1, k_2, k_3, k_4, false_implies, true_implies, reduceCtorEq]
  refine ⟨by decide, ⟨_, S70_X.m.1⟩, hq.mono ?_⟩
  rintro r M' ⟨rfl, σ2, rfl, h2⟩
  simp only [fi_const, fi_iload, fi_aload, fi_istore, fi_astore, fi_iinc, fi_bin, fi_div, fi_un, fi_dup, fi_dup2, fi_pop, fi_if, fi_cmp, fi_getf, fi_putf, fi_putr, fi_ald, fi_ast, fi_alen, fi_iret, fi_zret, fi_vret, fi_cut, fi_no, fi_s0, fi_s1, fi_s2, fi_s3, fi_s4, fi_v0, fi_v1, fi_v2, fi_v3, fi_v4, fi_v5, fi_n0, fi_n1, fi_n2, fi_mm, fi_stat, fi_alds, fi_tsw, List.getElem?_cons_zero, List.getElem?_cons_succ, List.set_cons_zero, List.set_cons_succ, List.length_cons, List.length_nil, Option.toList_some, Option.toList_none, List.cons_append, List.nil_append, Value.category, true_and, k_0, k_1, k_2, k_3, k_4, false_implies, true_implies, reduceCtorEq]
  exact ⟨K u σ2 τ fr v5 v6 h2 hu.s, fun z => absurd trivial z⟩
theorem L_feed (hp : LPs σ V nL nA nS kp nb) (hi : i < N) (hu : bd u i) (hx : scO g i) (K : nxt g N d i Q) : fs_R g (m_L_law N) d u 244 (lls i v5 v6) [] ((S70, fr), σ, τ) Q := by
  obtain ⟨x, hb⟩ := B_feed (g := g) (fr := fr) (τ := τ) hp (fs_Xs g (6 * i + 1)) (fs_Xs g (6 * i + 2)) (fs_Xs g (6 * i + 3)) (fs_Xs g (6 * i + 4)) (fs_Xs g (6 * i + 5))
  refine S_L_law_244 (hu.B hi) ?_
  simp only [T_L_law_244, lls, fi_scr, sc_1, scI hx (show 1 < 6 by decide), scC hx (show 1 < 6 by decide), sc_2, scI hx (show 2 < 6 by decide), scC hx (show 2 < 6 by decide), sc_3, scI hx (show 3 < 6 by decide), scC hx (show 3 < 6 by decide), sc_4, scI hx (show 4 < 6 by decide), scC hx (show 4 < 6 by decide), sc_5, scI hx (show 5 < 6 by decide), scC hx (show 5 < 6 by decide), fi_const, fi_iload, fi_aload, fi_istore, fi_astore, fi_iinc, fi_bin, fi_div, fi_un, fi_dup, fi_dup2, fi_pop, fi_if, fi_cmp, fi_getf, fi_putf, fi_putr, fi_ald, fi_ast, fi_alen, fi_iret, fi_zret, fi_vret, fi_cut, fi_no, fi_s0, fi_s1, fi_s2, fi_s3, fi_s4, fi_v0, fi_v1, fi_v2, fi_v3, fi_v4, fi_v5, fi_n0, fi_n1, fi_n2, fi_mm, fi_stat, fi_alds, fi_tsw, List.getElem?_cons_zero, List.getElem?_cons_succ, List.set_cons_zero, List.set_cons_succ, List.length_cons, List.length_nil, Option.toList_some, Option.toList_none, List.cons_append, List.nil_append, Value.category, true_and, k_0, k_1, k_2, k_3, k_4, false_implies, true_implies, reduceCtorEq]
  refine ⟨by decide, ⟨_, S70_X.1⟩, hb.mono ?_⟩
  rintro r M' ⟨rfl, σ1, rfl, hq⟩
  simp only [fi_scr, sc_1, scI hx (show 1 < 6 by decide), scC hx (show 1 < 6 by decide), sc_2, scI hx (show 2 < 6 by decide), scC hx (show 2 < 6 by decide), sc_3, scI hx (show 3 < 6 by decide), scC hx (show 3 < 6 by decide), sc_4, scI hx (show 4 < 6 by decide), scC hx (show 4 < 6 by decide), sc_5, scI hx (show 5 < 6 by decide), scC hx (show 5 < 6 by decide), fi_const, fi_iload, fi_aload, fi_istore, fi_astore, fi_iinc, fi_bin, fi_div, fi_un, fi_dup, fi_dup2, fi_pop, fi_if, fi_cmp, fi_getf, fi_putf, fi_putr, fi_ald, fi_ast, fi_alen, fi_iret, fi_zret, fi_vret, fi_cut, fi_no, fi_s0, fi_s1, fi_s2, fi_s3, fi_s4, fi_v0, fi_v1, fi_v2, fi_v3, fi_v4, fi_v5, fi_n0, fi_n1, fi_n2, fi_mm, fi_stat, fi_alds, fi_tsw, List.getElem?_cons_zero, List.getElem?_cons_succ, List.set_cons_zero, List.set_cons_succ, List.length_cons, List.length_nil, Option.toList_some, Option.toList_none, List.cons_append, List.nil_append, Value.category, true_and, k_0, k_1, k_2, k_3, k_4, false_implies, true_implies, reduceCtorEq]
  refine ⟨by decide, ⟨_, S70_X.m.1⟩, hq.mono ?_⟩
  rintro r M' ⟨rfl, σ2, rfl, h2⟩
  simp only [fi_const, fi_iload, fi_aload, fi_istore, fi_astore, fi_iinc, fi_bin, fi_div, fi_un, fi_dup, fi_dup2, fi_pop, fi_if, fi_cmp, fi_getf, fi_putf, fi_putr, fi_ald, fi_ast, fi_alen, fi_iret, fi_zret, fi_vret, fi_cut, fi_no, fi_s0, fi_s1, fi_s2, fi_s3, fi_s4, fi_v0, fi_v1, fi_v2, fi_v3, fi_v4, fi_v5, fi_n0, fi_n1, fi_n2, fi_mm, fi_stat, fi_alds, fi_tsw, List.getElem?_cons_zero, List.getElem?_cons_succ, List.set_cons_zero, List.set_cons_succ, List.length_cons, List.length_nil, Option.toList_some, Option.toList_none, List.cons_append, List.nil_append, Value.category, true_and, k_0, k_1, k_2, k_3, k_4, false_implies, true_implies, reduceCtorEq]
  exact ⟨K u σ2 τ fr v5 v6 h2 hu.s, fun z => absurd trivial z⟩
theorem L_take (hp : LPs σ V nL nA nS kp nb) (hi : i < N) (hu : bd u i) (hx : scO g i) (K : nxt g N d i Q) : fs_R g (m_L_law N) d u 1893 (lls i v5 v6) [] ((S70, fr), σ, τ) Q := by
  obtain ⟨x, hb⟩ := B_take (g := g) (fr := fr) (τ := τ) hp (fs_Xs g (6 * i + 1))
  refine S_L_law_1893 (hu.B hi) ?_
  simp only [T_L_law_1893, lls, fi_scr, sc_1, scI hx (show 1 < 6 by decide), scC hx (show 1 < 6 by decide), sc_2, scI hx (show 2 < 6 by decide), scC hx (show 2 < 6 by decide), sc_3, scI hx (show 3 < 6 by decide), scC hx (show 3 < 6 by decide), sc_4, scI hx (show 4 < 6 by decide), scC hx (show 4 < 6 by decide), sc_5, scI hx (show 5 < 6 by decide), scC hx (show 5 < 6 by decide), fi_const, fi_iload, fi_aload, fi_istore, fi_astore, fi_iinc, fi_bin, fi_div, fi_un, fi_dup, fi_dup2, fi_pop, fi_if, fi_cmp, fi_getf, fi_putf, fi_putr, fi_ald, fi_ast, fi_alen, fi_iret, fi_zret, fi_vret, fi_cut, fi_no, fi_s0, fi_s1, fi_s2, fi_s3, fi_s4, fi_v0, fi_v1, fi_v2, fi_v3, fi_v4, fi_v5, fi_n0, fi_n1, fi_n2, fi_mm, fi_stat, fi_alds, fi_tsw, List.getElem?_cons_zero, List.getElem?_cons_succ, List.set_cons_zero, List.set_cons_succ, List.length_cons, List.length_nil, Option.toList_some, Option.toList_none, List.cons_append, List.nil_append, Value.category, true_and, k_0, k_1, k_2, k_3, k_4, false_implies, true_implies, reduceCtorEq]
  refine ⟨by decide, ⟨_, S70_X.1⟩, hb.mono ?_⟩
  rintro r M' ⟨rfl, σ1, rfl, hq⟩
  simp only [fi_scr, sc_1, scI hx (show 1 < 6 by decide), scC hx (show 1 < 6 by decide), sc_2, scI hx (show 2 < 6 by decide), scC hx (show 2 < 6 by decide), sc_3, scI hx (show 3 < 6 by decide), scC hx (show 3 < 6 by decide), sc_4, scI hx (show 4 < 6 by decide), scC hx (show 4 < 6 by decide), sc_5, scI hx (show 5 < 6 by decide), scC hx (show 5 < 6 by decide), fi_const, fi_iload, fi_aload, fi_istore, fi_astore, fi_iinc, fi_bin, fi_div, fi_un, fi_dup, fi_dup2, fi_pop, fi_if, fi_cmp, fi_getf, fi_putf, fi_putr, fi_ald, fi_ast, fi_alen, fi_iret, fi_zret, fi_vret, fi_cut, fi_no, fi_s0, fi_s1, fi_s2, fi_s3, fi_s4, fi_v0, fi_v1, fi_v2, fi_v3, fi_v4, fi_v5, fi_n0, fi_n1, fi_n2, fi_mm, fi_stat, fi_alds, fi_tsw, List.getElem?_cons_zero, List.getElem?_cons_succ, List.set_cons_zero, List.set_cons_succ, List.length_cons, List.length_nil, Option.toList_some, Option.toList_none, List.cons_append, List.nil_append, Value.category, true_and, k_0, k_1, k_2, k_3, k_4, false_implies, true_implies, reduceCtorEq]
  refine ⟨by decide, ⟨_, S70_X.m.1⟩, hq.mono ?_⟩
  rintro r M' ⟨rfl, σ2, rfl, h2⟩
  simp only [fi_const, fi_iload, fi_aload, fi_istore, fi_astore, fi_iinc, fi_bin, fi_div, fi_un, fi_dup, fi_dup2, fi_pop, fi_if, fi_cmp, fi_getf, fi_putf, fi_putr, fi_ald, fi_ast, fi_alen, fi_iret, fi_zret, fi_vret, fi_cut, fi_no, fi_s0, fi_s1, fi_s2, fi_s3, fi_s4, fi_v0, fi_v1, fi_v2, fi_v3, fi_v4, fi_v5, fi_n0, fi_n1, fi_n2, fi_mm, fi_stat, fi_alds, fi_tsw, List.getElem?_cons_zero, List.getElem?_cons_succ, List.set_cons_zero, List.set_cons_succ, List.length_cons, List.length_nil, Option.toList_some, Option.toList_none, List.cons_append, List.nil_append, Value.category, true_and, k_0, k_1, k_2, k_3, k_4, false_implies, true_implies, reduceCtorEq]
  exact ⟨K u σ2 τ fr v5 v6 h2 hu.s, fun z => absurd trivial z⟩
theorem L_fill (hp : LPs σ V nL nA nS kp nb) (hi : i < N) (hu : bd u i) (hx : scO g i) (K : nxt g N d i Q) : fs_R g (m_L_law N) d u 1955 (lls i v5 v6) [] ((S70, fr), σ, τ) Q := by
  obtain ⟨x, hb⟩ := B_fill (g := g) (fr := fr) (τ := τ) hp
  refine S_L_law_1955 (hu.B hi) ?_
  simp only [T_L_law_1955, lls, fi_scr, sc_1, scI hx (show 1 < 6 by decide), scC hx (show 1 < 6 by decide), sc_2, scI hx (show 2 < 6 by decide), scC hx (show 2 < 6 by decide), sc_3, scI hx (show 3 < 6 by decide), scC hx (show 3 < 6 by decide), sc_4, scI hx (show 4 < 6 by decide), scC hx (show 4 < 6 by decide), sc_5, scI hx (show 5 < 6 by decide), scC hx (show 5 < 6 by decide), fi_const, fi_iload, fi_aload, fi_istore, fi_astore, fi_iinc, fi_bin, fi_div, fi_un, fi_dup, fi_dup2, fi_pop, fi_if, fi_cmp, fi_getf, fi_putf, fi_putr, fi_ald, fi_ast, fi_alen, fi_iret, fi_zret, fi_vret, fi_cut, fi_no, fi_s0, fi_s1, fi_s2, fi_s3, fi_s4, fi_v0, fi_v1, fi_v2, fi_v3, fi_v4, fi_v5, fi_n0, fi_n1, fi_n2, fi_mm, fi_stat, fi_alds, fi_tsw, List.getElem?_cons_zero, List.getElem?_cons_succ, List.set_cons_zero, List.set_cons_succ, List.length_cons, List.length_nil, Option.toList_some, Option.toList_none, List.cons_append, List.nil_append, Value.category, true_and, k_0, k_1, k_2, k_3, k_4, false_implies, true_implies, reduceCtorEq]
  refine ⟨by decide, ⟨_, S70_X.1⟩, hb.mono ?_⟩
  rintro r M' ⟨rfl, σ1, rfl, hq⟩
  simp only [fi_scr, sc_1, scI hx (show 1 < 6 by decide), scC hx (show 1 < 6 by decide), sc_2, scI hx (show 2 < 6 by decide), scC hx (show 2 < 6 by decide), sc_3, scI hx (show 3 < 6 by decide), scC hx (show 3 < 6 by decide), sc_4, scI hx (show 4 < 6 by decide), scC hx (show 4 < 6 by decide), sc_5, scI hx (show 5 < 6 by decide), scC hx (show 5 < 6 by decide), fi_const, fi_iload, fi_aload, fi_istore, fi_astore, fi_iinc, fi_bin, fi_div, fi_un, fi_dup, fi_dup2, fi_pop, fi_if, fi_cmp, fi_getf, fi_putf, fi_putr, fi_ald, fi_ast, fi_alen, fi_iret, fi_zret, fi_vret, fi_cut, fi_no, fi_s0, fi_s1, fi_s2, fi_s3, fi_s4, fi_v0, fi_v1, fi_v2, fi_v3, fi_v4, fi_v5, fi_n0, fi_n1, fi_n2, fi_mm, fi_stat, fi_alds, fi_tsw, List.getElem?_cons_zero, List.getElem?_cons_succ, List.set_cons_zero, List.set_cons_succ, List.length_cons, List.length_nil, Option.toList_some, Option.toList_none, List.cons_append, List.nil_append, Value.category, true_and, k_0, k_1, k_2, k_3, k_4, false_implies, true_implies, reduceCtorEq]
  refine ⟨by decide, ⟨_, S70_X.m.1⟩, hq.mono ?_⟩
  rintro r M' ⟨rfl, σ2, rfl, h2⟩
  simp only [fi_const, fi_iload, fi_aload, fi_istore, fi_astore, fi_iinc, fi_bin, fi_div, fi_un, fi_dup, fi_dup2, fi_pop, fi_if, fi_cmp, fi_getf, fi_putf, fi_putr, fi_ald, fi_ast, fi_alen, fi_iret, fi_zret, fi_vret, fi_cut, fi_no, fi_s0, fi_s1, fi_s2, fi_s3, fi_s4, fi_v0, fi_v1, fi_v2, fi_v3, fi_v4, fi_v5, fi_n0, fi_n1, fi_n2, fi_mm, fi_stat, fi_alds, fi_tsw, List.getElem?_cons_zero, List.getElem?_cons_succ, List.set_cons_zero, List.set_cons_succ, List.length_cons, List.length_nil, Option.toList_some, Option.toList_none, List.cons_append, List.nil_append, Value.category, true_and, k_0, k_1, k_2, k_3, k_4, false_implies, true_implies, reduceCtorEq]
  exact ⟨K u σ2 τ fr v5 v6 h2 hu.s, fun z => absurd trivial z⟩
theorem L_useBest (hp : LPs σ V nL nA nS kp nb) (hi : i < N) (hu : bd u i) (hx : scO g i) (K : nxt g N d i Q) : fs_R g (m_L_law N) d u 1968 (lls i v5 v6) [] ((S70, fr), σ, τ) Q := by
  obtain ⟨x, hb⟩ := B_useBest (g := g) (fr := fr) (τ := τ) hp
  refine S_L_law_1968 (hu.B hi) ?_
  simp only [T_L_law_1968, lls, fi_scr, sc_1, scI hx (show 1 < 6 by decide), scC hx (show 1 < 6 by decide), sc_2, scI hx (show 2 < 6 by decide), scC hx (show 2 < 6 by decide), sc_3, scI hx (show 3 < 6 by decide), scC hx (show 3 < 6 by decide), sc_4, scI hx (show 4 < 6 by decide), scC hx (show 4 < 6 by decide), sc_5, scI hx (show 5 < 6 by decide), scC hx (show 5 < 6 by decide), fi_const, fi_iload, fi_aload, fi_istore, fi_astore, fi_iinc, fi_bin, fi_div, fi_un, fi_dup, fi_dup2, fi_pop, fi_if, fi_cmp, fi_getf, fi_putf, fi_putr, fi_ald, fi_ast, fi_alen, fi_iret, fi_zret, fi_vret, fi_cut, fi_no, fi_s0, fi_s1, fi_s2, fi_s3, fi_s4, fi_v0, fi_v1, fi_v2, fi_v3, fi_v4, fi_v5, fi_n0, fi_n1, fi_n2, fi_mm, fi_stat, fi_alds, fi_tsw, List.getElem?_cons_zero, List.getElem?_cons_succ, List.set_cons_zero, List.set_cons_succ, List.length_cons, List.length_nil, Option.toList_some, Option.toList_none, List.cons_append, List.nil_append, Value.category, true_and, k_0, k_1, k_2, k_3, k_4, false_implies, true_implies, reduceCtorEq]
  refine ⟨by decide, ⟨_, S70_X.1⟩, hb.mono ?_⟩
  rintro r M' ⟨rfl, σ1, rfl, hq⟩
  simp only [fi_scr, sc_1, scI hx (show 1 < 6 by decide), scC hx (show 1 < 6 by decide), sc_2, scI hx (show 2 < 6 by decide), scC hx (show 2 < 6 by decide), sc_3, scI hx (show 3 < 6 by decide), scC hx (show 3 < 6 by decide), sc_4, scI hx (show 4 < 6 by decide), scC hx (show 4 < 6 by decide), sc_5, scI hx (show 5 < 6 by decide), scC hx (show 5 < 6 by decide), fi_const, fi_iload, fi_aload, fi_istore, fi_astore, fi_iinc, fi_bin, fi_div, fi_un, fi_dup, fi_dup2, fi_pop, fi_if, fi_cmp, fi_getf, fi_putf, fi_putr, fi_ald, fi_ast, fi_alen, fi_iret, fi_zret, fi_vret, fi_cut, fi_no, fi_s0, fi_s1, fi_s2, fi_s3, fi_s4, fi_v0, fi_v1, fi_v2, fi_v3, fi_v4, fi_v5, fi_n0, fi_n1, fi_n2, fi_mm, fi_stat, fi_alds, fi_tsw, List.getElem?_cons_zero, List.getElem?_cons_succ, List.set_cons_zero, List.set_cons_succ, List.length_cons, List.length_nil, Option.toList_some, Option.toList_none, List.cons_append, List.nil_append, Value.category, true_and, k_0, k_1, k_2, k_3, k_4, false_implies, true_implies, reduceCtorEq]
  refine ⟨by decide, ⟨_, S70_X.m.1⟩, hq.mono ?_⟩
  rintro r M' ⟨rfl, σ2, rfl, h2⟩
  simp only [fi_const, fi_iload, fi_aload, fi_istore, fi_astore, fi_iinc, fi_bin, fi_div, fi_un, fi_dup, fi_dup2, fi_pop, fi_if, fi_cmp, fi_getf, fi_putf, fi_putr, fi_ald, fi_ast, fi_alen, fi_iret, fi_zret, fi_vret, fi_cut, fi_no, fi_s0, fi_s1, fi_s2, fi_s3, fi_s4, fi_v0, fi_v1, fi_v2, fi_v3, fi_v4, fi_v5, fi_n0, fi_n1, fi_n2, fi_mm, fi_stat, fi_alds, fi_tsw, List.getElem?_cons_zero, List.getElem?_cons_succ, List.set_cons_zero, List.set_cons_succ, List.length_cons, List.length_nil, Option.toList_some, Option.toList_none, List.cons_append, List.nil_append, Value.category, true_and, k_0, k_1, k_2, k_3, k_4, false_implies, true_implies, reduceCtorEq]
  exact ⟨K u σ2 τ fr v5 v6 h2 hu.s, fun z => absurd trivial z⟩
theorem L_setSetting (hp : LPs σ V nL nA nS kp nb) (hi : i < N) (hu : bd u i) (hx : scO g i) (K : nxt g N d i Q) : fs_R g (m_L_law N) d u 1981 (lls i v5 v6) [] ((S70, fr), σ, τ) Q := by
  obtain ⟨x, hb⟩ := B_setSetting (g := g) (fr := fr) (τ := τ) hp (fs_Xs g (6 * i + 1)) (fs_Xs g (6 * i + 2))
  refine S_L_law_1981 (hu.B hi) ?_
  simp only [T_L_law_1981, lls, fi_scr, sc_1, scI hx (show 1 < 6 by decide), scC hx (show 1 < 6 by decide), sc_2, scI hx (show 2 < 6 by decide), scC hx (show 2 < 6 by decide), sc_3, scI hx (show 3 < 6 by decide), scC hx (show 3 < 6 by decide), sc_4, scI hx (show 4 < 6 by decide), scC hx (show 4 < 6 by decide), sc_5, scI hx (show 5 < 6 by decide), scC hx (show 5 < 6 by decide), fi_const, fi_iload, fi_aload, fi_istore, fi_astore, fi_iinc, fi_bin, fi_div, fi_un, fi_dup, fi_dup2, fi_pop, fi_if, fi_cmp, fi_getf, fi_putf, fi_putr, fi_ald, fi_ast, fi_alen, fi_iret, fi_zret, fi_vret, fi_cut, fi_no, fi_s0, fi_s1, fi_s2, fi_s3, fi_s4, fi_v0, fi_v1, fi_v2, fi_v3, fi_v4, fi_v5, fi_n0, fi_n1, fi_n2, fi_mm, fi_stat, fi_alds, fi_tsw, List.getElem?_cons_zero, List.getElem?_cons_succ, List.set_cons_zero, List.set_cons_succ, List.length_cons, List.length_nil, Option.toList_some, Option.toList_none, List.cons_append, List.nil_append, Value.category, true_and, k_0, k_1, k_2, k_3, k_4, false_implies, true_implies, reduceCtorEq]
  refine ⟨by decide, ⟨_, S70_X.1⟩, hb.mono ?_⟩
  rintro r M' ⟨rfl, σ1, rfl, hq⟩
  simp only [fi_scr, sc_1, scI hx (show 1 < 6 by decide), scC hx (show 1 < 6 by decide), sc_2, scI hx (show 2 < 6 by decide), scC hx (show 2 < 6 by decide), sc_3, scI hx (show 3 < 6 by decide), scC hx (show 3 < 6 by decide), sc_4, scI hx (show 4 < 6 by decide), scC hx (show 4 < 6 by decide), sc_5, scI hx (show 5 < 6 by decide), scC hx (show 5 < 6 by decide), fi_const, fi_iload, fi_aload, fi_istore, fi_astore, fi_iinc, fi_bin, fi_div, fi_un, fi_dup, fi_dup2, fi_pop, fi_if, fi_cmp, fi_getf, fi_putf, fi_putr, fi_ald, fi_ast, fi_alen, fi_iret, fi_zret, fi_vret, fi_cut, fi_no, fi_s0, fi_s1, fi_s2, fi_s3, fi_s4, fi_v0, fi_v1, fi_v2, fi_v3, fi_v4, fi_v5, fi_n0, fi_n1, fi_n2, fi_mm, fi_stat, fi_alds, fi_tsw, List.getElem?_cons_zero, List.getElem?_cons_succ, List.set_cons_zero, List.set_cons_succ, List.length_cons, List.length_nil, Option.toList_some, Option.toList_none, List.cons_append, List.nil_append, Value.category, true_and, k_0, k_1, k_2, k_3, k_4, false_implies, true_implies, reduceCtorEq]
  refine ⟨by decide, ⟨_, S70_X.m.1⟩, hq.mono ?_⟩
  rintro r M' ⟨rfl, σ2, rfl, h2⟩
  simp only [fi_const, fi_iload, fi_aload, fi_istore, fi_astore, fi_iinc, fi_bin, fi_div, fi_un, fi_dup, fi_dup2, fi_pop, fi_if, fi_cmp, fi_getf, fi_putf, fi_putr, fi_ald, fi_ast, fi_alen, fi_iret, fi_zret, fi_vret, fi_cut, fi_no, fi_s0, fi_s1, fi_s2, fi_s3, fi_s4, fi_v0, fi_v1, fi_v2, fi_v3, fi_v4, fi_v5, fi_n0, fi_n1, fi_n2, fi_mm, fi_stat, fi_alds, fi_tsw, List.getElem?_cons_zero, List.getElem?_cons_succ, List.set_cons_zero, List.set_cons_succ, List.length_cons, List.length_nil, Option.toList_some, Option.toList_none, List.cons_append, List.nil_append, Value.category, true_and, k_0, k_1, k_2, k_3, k_4, false_implies, true_implies, reduceCtorEq]
  exact ⟨K u σ2 τ fr v5 v6 h2 hu.s, fun z => absurd trivial z⟩
theorem L_undo (hp : LPs σ V nL nA nS kp nb) (hi : i < N) (hu : bd u i) (hx : scO g i) (K : nxt g N d i Q) : fs_R g (m_L_law N) d u 2018 (lls i v5 v6) [] ((S70, fr), σ, τ) Q := by
  obtain ⟨x, hb⟩ := B_undo (g := g) (fr := fr) (τ := τ) hp
  refine S_L_law_2018 (hu.B hi) ?_
  simp only [T_L_law_2018, lls, fi_scr, sc_1, scI hx (show 1 < 6 by decide), scC hx (show 1 < 6 by decide), sc_2, scI hx (show 2 < 6 by decide), scC hx (show 2 < 6 by decide), sc_3, scI hx (show 3 < 6 by decide), scC hx (show 3 < 6 by decide), sc_4, scI hx (show 4 < 6 by decide), scC hx (show 4 < 6 by decide), sc_5, scI hx (show 5 < 6 by decide), scC hx (show 5 < 6 by decide), fi_const, fi_iload, fi_aload, fi_istore, fi_astore, fi_iinc, fi_bin, fi_div, fi_un, fi_dup, fi_dup2, fi_pop, fi_if, fi_cmp, fi_getf, fi_putf, fi_putr, fi_ald, fi_ast, fi_alen, fi_iret, fi_zret, fi_vret, fi_cut, fi_no, fi_s0, fi_s1, fi_s2, fi_s3, fi_s4, fi_v0, fi_v1, fi_v2, fi_v3, fi_v4, fi_v5, fi_n0, fi_n1, fi_n2, fi_mm, fi_stat, fi_alds, fi_tsw, List.getElem?_cons_zero, List.getElem?_cons_succ, List.set_cons_zero, List.set_cons_succ, List.length_cons, List.length_nil, Option.toList_some, Option.toList_none, List.cons_append, List.nil_append, Value.category, true_and, k_0, k_1, k_2, k_3, k_4, false_implies, true_implies, reduceCtorEq]
  refine ⟨by decide, ⟨_, S70_X.1⟩, hb.mono ?_⟩
  rintro r M' ⟨rfl, σ1, rfl, hq⟩
  simp only [fi_scr, sc_1, scI hx (show 1 < 6 by decide), scC hx (show 1 < 6 by decide), sc_2, scI hx (show 2 < 6 by decide), scC hx (show 2 < 6 by decide), sc_3, scI hx (show 3 < 6 by decide), scC hx (show 3 < 6 by decide), sc_4, scI hx (show 4 < 6 by decide), scC hx (show 4 < 6 by decide), sc_5, scI hx (show 5 < 6 by decide), scC hx (show 5 < 6 by decide), fi_const, fi_iload, fi_aload, fi_istore, fi_astore, fi_iinc, fi_bin, fi_div, fi_un, fi_dup, fi_dup2, fi_pop, fi_if, fi_cmp, fi_getf, fi_putf, fi_putr, fi_ald, fi_ast, fi_alen, fi_iret, fi_zret, fi_vret, fi_cut, fi_no, fi_s0, fi_s1, fi_s2, fi_s3, fi_s4, fi_v0, fi_v1, fi_v2, fi_v3, fi_v4, fi_v5, fi_n0, fi_n1, fi_n2, fi_mm, fi_stat, fi_alds, fi_tsw, List.getElem?_cons_zero, List.getElem?_cons_succ, List.set_cons_zero, List.set_cons_succ, List.length_cons, List.length_nil, Option.toList_some, Option.toList_none, List.cons_append, List.nil_append, Value.category, true_and, k_0, k_1, k_2, k_3, k_4, false_implies, true_implies, reduceCtorEq]
  refine ⟨by decide, ⟨_, S70_X.m.1⟩, hq.mono ?_⟩
  rintro r M' ⟨rfl, σ2, rfl, h2⟩
  simp only [fi_const, fi_iload, fi_aload, fi_istore, fi_astore, fi_iinc, fi_bin, fi_div, fi_un, fi_dup, fi_dup2, fi_pop, fi_if, fi_cmp, fi_getf, fi_putf, fi_putr, fi_ald, fi_ast, fi_alen, fi_iret, fi_zret, fi_vret, fi_cut, fi_no, fi_s0, fi_s1, fi_s2, fi_s3, fi_s4, fi_v0, fi_v1, fi_v2, fi_v3, fi_v4, fi_v5, fi_n0, fi_n1, fi_n2, fi_mm, fi_stat, fi_alds, fi_tsw, List.getElem?_cons_zero, List.getElem?_cons_succ, List.set_cons_zero, List.set_cons_succ, List.length_cons, List.length_nil, Option.toList_some, Option.toList_none, List.cons_append, List.nil_append, Value.category, true_and, k_0, k_1, k_2, k_3, k_4, false_implies, true_implies, reduceCtorEq]
  exact ⟨K u σ2 τ fr v5 v6 h2 hu.s, fun z => absurd trivial z⟩
theorem B_exchange (hp : LPs σ V nL nA nS kp nb) (x y : Int32) : bth g fr τ σ m_X8_exchange m_X9_exchange [.ref 0, .int x, .int y] [.ref 56, .int x, .int y] := by
  obtain ⟨hT, hN, h9, -⟩ := id hp.1
  have h01 : b01 (v_ni V) nS := hT.2.2.2.2.2.2.2.1
  by_cases q : inI x 12 ∧ inI y 12
  · obtain ⟨q1, q2⟩ := q
    obtain ⟨a, ha, rfl⟩ := inI_nat q1 (by decide)
    obtain ⟨b, hb, rfl⟩ := inI_nat q2 (by decide)
    cases hr : exR V nS a b with
    | true => exact c2b hp (k_ex S70_X S70_S hp.1 ha hb hr) (n_ex S70_X hp.1 ha hb hr) (okV_ch hp.1 (okN_ex hT hN ha hb ((rested_iff h01).mp hr)))
    | false => exact q2b hp (k_ex_5 S70_X hT hN ha hb hr) (n_ex_5 S70_X hT ha hb hr)
  · exact q2b hp (k_ex_2 S70_X q) (n_ex_2 S70_X q)
theorem L_exchange (hp : LPs σ V nL nA nS kp nb) (hi : i < N) (hu : bd u i) (hx : scO g i) (K : nxt g N d i Q) : fs_R g (m_L_law N) d u 1918 (lls i v5 v6) [] ((S70, fr), σ, τ) Q := by
  obtain ⟨x, hb⟩ := B_exchange (g := g) (fr := fr) (τ := τ) hp (fs_Xs g (6 * i + 1)) (fs_Xs g (6 * i + 2))
  refine S_L_law_1918 (hu.B hi) ?_
  simp only [T_L_law_1918, lls, fi_scr, sc_1, scI hx (show 1 < 6 by decide), scC hx (show 1 < 6 by decide), sc_2, scI hx (show 2 < 6 by decide), scC hx (show 2 < 6 by decide), sc_3, scI hx (show 3 < 6 by decide), scC hx (show 3 < 6 by decide), sc_4, scI hx (show 4 < 6 by decide), scC hx (show 4 < 6 by decide), sc_5, scI hx (show 5 < 6 by decide), scC hx (show 5 < 6 by decide), fi_const, fi_iload, fi_aload, fi_istore, fi_astore, fi_iinc, fi_bin, fi_div, fi_un, fi_dup, fi_dup2, fi_pop, fi_if, fi_cmp, fi_getf, fi_putf, fi_putr, fi_ald, fi_ast, fi_alen, fi_iret, fi_zret, fi_vret, fi_cut, fi_no, fi_s0, fi_s1, fi_s2, fi_s3, fi_s4, fi_v0, fi_v1, fi_v2, fi_v3, fi_v4, fi_v5, fi_n0, fi_n1, fi_n2, fi_mm, fi_stat, fi_alds, fi_tsw, List.getElem?_cons_zero, List.getElem?_cons_succ, List.set_cons_zero, List.set_cons_succ, List.length_cons, List.length_nil, Option.toList_some, Option.toList_none, List.cons_append, List.nil_append, Value.category, true_and, k_0, k_1, k_2, k_3, k_4, false_implies, true_implies, reduceCtorEq]
  refine ⟨by decide, ⟨_, S70_X.1⟩, hb.mono ?_⟩
  rintro r M' ⟨rfl, σ1, rfl, hq⟩
  simp only [fi_scr, sc_1, scI hx (show 1 < 6 by decide), scC hx (show 1 < 6 by decide), sc_2, scI hx (show 2 < 6 by decide), scC hx (show 2 < 6 by decide), sc_3, scI hx (show 3 < 6 by decide), scC hx (show 3 < 6 by decide), sc_4, scI hx (show 4 < 6 by decide), scC hx (show 4 < 6 by decide), sc_5, scI hx (show 5 < 6 by decide), scC hx (show 5 < 6 by decide), fi_const, fi_iload, fi_aload, fi_istore, fi_astore, fi_iinc, fi_bin, fi_div, fi_un, fi_dup, fi_dup2, fi_pop, fi_if, fi_cmp, fi_getf, fi_putf, fi_putr, fi_ald, fi_ast, fi_alen, fi_iret, fi_zret, fi_vret, fi_cut, fi_no, fi_s0, fi_s1, fi_s2, fi_s3, fi_s4, fi_v0, fi_v1, fi_v2, fi_v3, fi_v4, fi_v5, fi_n0, fi_n1, fi_n2, fi_mm, fi_stat, fi_alds, fi_tsw, List.getElem?_cons_zero, List.getElem?_cons_succ, List.set_cons_zero, List.set_cons_succ, List.length_cons, List.length_nil, Option.toList_some, Option.toList_none, List.cons_append, List.nil_append, Value.category, true_and, k_0, k_1, k_2, k_3, k_4, false_implies, true_implies, reduceCtorEq]
  refine ⟨by decide, ⟨_, S70_X.m.1⟩, hq.mono ?_⟩
  rintro r M' ⟨rfl, σ2, rfl, h2⟩
  simp only [fi_const, fi_iload, fi_aload, fi_istore, fi_astore, fi_iinc, fi_bin, fi_div, fi_un, fi_dup, fi_dup2, fi_pop, fi_if, fi_cmp, fi_getf, fi_putf, fi_putr, fi_ald, fi_ast, fi_alen, fi_iret, fi_zret, fi_vret, fi_cut, fi_no, fi_s0, fi_s1, fi_s2, fi_s3, fi_s4, fi_v0, fi_v1, fi_v2, fi_v3, fi_v4, fi_v5, fi_n0, fi_n1, fi_n2, fi_mm, fi_stat, fi_alds, fi_tsw, List.getElem?_cons_zero, List.getElem?_cons_succ, List.set_cons_zero, List.set_cons_succ, List.length_cons, List.length_nil, Option.toList_some, Option.toList_none, List.cons_append, List.nil_append, Value.category, true_and, k_0, k_1, k_2, k_3, k_4, false_implies, true_implies, reduceCtorEq]
  exact ⟨K u σ2 τ fr v5 v6 h2 hu.s, fun z => absurd trivial z⟩
end LC4
