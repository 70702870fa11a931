/-! ===== the law: load ===== -/
section LC5
variable {g : fs_G} {N d i : Nat} {u : Nat × Nat} {S : List fs_Sh} {fr : Bool} {σ : Nat → Nat → Int32} {τ : Nat → Nat → Int64} {V : Vt} {nL nA nS kp nb : Nat} {Q : Option Value → fs_M → Prop} {v5 v6 : Value} {Z : Zt}
theorem k_load_zo (hX : shX S) (hS : shS S) (hL : shL S) (hV : okV V nL nA nS kp nb) {n : Nat} (hn : n ≤ nb) {c : Nat} (he : pTxt (bN V) n (n + 1) 0 (Z0 (V 2) (V 4)) 0 = .inr (Z, c)) (h : IC σ V nL nA nS kp nb) : fs_Ct g m_X8_load [.ref 0, .int (nI n)] ((S, fr), σ, τ) (fun r M' => r = some (.int (nI c)) ∧ ∃ σ', M' = ((S, fr), σ', τ) ∧ IC σ' (ldV V Z.1 Z.2.1) Z.2.2.1.1 Z.2.2.1.2.1 Z.2.2.1.2.2 0 0 ∧ (∀ a, 56 ≤ a → σ' a = σ a) ∧ okZ Z) := by
  have hb := hV.2.2.2.2.2.2.1
  have h0 := h.2.2.2.2.2.2.2.2.2.1
  have hP := hX.2.2.1
  have hH := hX.2.2.2.2.2.1
  refine fs_enterC (by decide) (by simp [fs_ok]) (Nat.le_of_ble_eq_true rfl) (fun d => S_X8_load_0 ?_)
  show T_X8_load_0 g d _ [.ref 0, .int (nI n), .null] [] _
  simp only [T_X8_load_0, fi_const, fi_iload, fi_aload, fi_istore, fi_astore, fi_iinc, fi_bin, fi_div, fi_un, fi_dup, fi_dup2, fi_pop, fi_if, fi_cmp, fi_getf, fi_putf, fi_putr, fi_ald, fi_ast, fi_alen, fi_iret, fi_zret, fi_vret, fi_cut, fi_no, fi_s0, fi_s1, fi_s2, fi_s3, fi_s4, fi_v0, fi_v1, fi_v2, fi_v3, fi_v4, fi_v5, fi_n0, fi_n1, fi_n2, fi_mm, fi_stat, fi_alds, fi_tsw, List.getElem?_cons_zero, List.getElem?_cons_succ, List.set_cons_zero, List.set_cons_succ, List.length_cons, List.length_nil, Option.toList_some, Option.toList_none, List.cons_append, List.nil_append, Value.category, true_and, k_0, k_1, k_2, k_3, k_4, false_implies, true_implies, reduceCtorEq]
  simp only [fi_const, fi_iload, fi_aload, fi_istore, fi_astore, fi_iinc, fi_bin, fi_div, fi_un, fi_dup, fi_dup2, fi_pop, fi_if, fi_cmp, fi_getf, fi_putf, fi_putr, fi_ald, fi_ast, fi_alen, fi_iret, fi_zret, fi_vret, fi_cut, fi_no, fi_s0, fi_s1, fi_s2, fi_s3, fi_s4, fi_v0, fi_v1, fi_v2, fi_v3, fi_v4, fi_v5, fi_n0, fi_n1, fi_n2, fi_mm, fi_stat, fi_alds, fi_tsw, List.getElem?_cons_zero, List.getElem?_cons_succ, List.set_cons_zero, List.set_cons_succ, List.length_cons, List.length_nil, Option.toList_some, Option.toList_none, List.cons_append, List.nil_append, Value.category, true_and, k_0, k_1, k_2, k_3, k_4, false_implies, true_implies, reduceCtorEq, hX.1, h0]
  refine ⟨fun z => absurd (nI_pos' (show n < 2 ^ 31 by omega)) (by rw [Int32.not_le]; exact z), fun _ => pk_le n nb (fun _ => ?_) (fun z => by omega)⟩
  refine ⟨by decide, ⟨_, hL.1⟩, (c_readText hL (by omega) (b := bN V) (fun i hi => ⟨(bN_ok hV (by omega)).1, by rw [fs_u_ne (by decide)]; exact h.bt hV (by omega)⟩) (V 2) (V 4)).mono ?_⟩
  rintro r M' ⟨σ1, rfl, f1, f2⟩
  rw [he] at f2
  obtain ⟨rfl, f3, f4, f5⟩ := f2
  simp only [fi_const, fi_iload, fi_aload, fi_istore, fi_astore, fi_iinc, fi_bin, fi_div, fi_un, fi_dup, fi_dup2, fi_pop, fi_if, fi_cmp, fi_getf, fi_putf, fi_putr, fi_ald, fi_ast, fi_alen, fi_iret, fi_zret, fi_vret, fi_cut, fi_no, fi_s0, fi_s1, fi_s2, fi_s3, fi_s4, fi_v0, fi_v1, fi_v2, fi_v3, fi_v4, fi_v5, fi_n0, fi_n1, fi_n2, fi_mm, fi_stat, fi_alds, fi_tsw, List.getElem?_cons_zero, List.getElem?_cons_succ, List.set_cons_zero, List.set_cons_succ, List.length_cons, List.length_nil, Option.toList_some, Option.toList_none, List.cons_append, List.nil_append, Value.category, true_and, k_0, k_1, k_2, k_3, k_4, false_implies, true_implies, reduceCtorEq, hX.1, hL.1]
  refine ⟨fun _ => ?_, fun z => absurd (nI_pos' (by omega)) z⟩
  have hDC : DC (fs_u σ1 0 2 (-1)) Z := f4.keep (fun a h1 _ => fs_u_ne (by omega)) (by rw [fs_u_ne (by decide)]) (by rw [fs_u_ne (by decide)])
  refine ⟨by decide, ⟨_, hP.1⟩, (c_copyFrom hX hL f5 hDC).mono ?_⟩
  rintro r M' ⟨rfl, σ2, rfl, s1, s2, s3, s4, s5, s6, s7⟩
  have hc1 : fs_Ct g m_X1_forgetAll [.ref 46] ((S, fr), σ2, τ) (fun r M' => r = none ∧ ((S, fr), fs_u σ2 46 0 0, τ) = M') := by
    refine fs_enterC (by decide) (by simp [fs_ok]) (Nat.le_of_ble_eq_true rfl) (fun d => S_X1_forgetAll_0 ?_)
    show T_X1_forgetAll_0 g d _ [.ref 46] [] _
    simp only [T_X1_forgetAll_0, fi_const, fi_iload, fi_aload, fi_istore, fi_astore, fi_iinc, fi_bin, fi_div, fi_un, fi_dup, fi_dup2, fi_pop, fi_if, fi_cmp, fi_getf, fi_putf, fi_putr, fi_ald, fi_ast, fi_alen, fi_iret, fi_zret, fi_vret, fi_cut, fi_no, fi_s0, fi_s1, fi_s2, fi_s3, fi_s4, fi_v0, fi_v1, fi_v2, fi_v3, fi_v4, fi_v5, fi_n0, fi_n1, fi_n2, fi_mm, fi_stat, fi_alds, fi_tsw, List.getElem?_cons_zero, List.getElem?_cons_succ, List.set_cons_zero, List.set_cons_succ, List.length_cons, List.length_nil, Option.toList_some, Option.toList_none, List.cons_append, List.nil_append, Value.category, true_and, k_0, k_1, k_2, k_3, k_4, false_implies, true_implies, reduceCtorEq]
    simp only [fi_const, fi_iload, fi_aload, fi_istore, fi_astore, fi_iinc, fi_bin, fi_div, fi_un, fi_dup, fi_dup2, fi_pop, fi_if, fi_cmp, fi_getf, fi_putf, fi_putr, fi_ald, fi_ast, fi_alen, fi_iret, fi_zret, fi_vret, fi_cut, fi_no, fi_s0, fi_s1, fi_s2, fi_s3, fi_s4, fi_v0, fi_v1, fi_v2, fi_v3, fi_v4, fi_v5, fi_n0, fi_n1, fi_n2, fi_mm, fi_stat, fi_alds, fi_tsw, List.getElem?_cons_zero, List.getElem?_cons_succ, List.set_cons_zero, List.set_cons_succ, List.length_cons, List.length_nil, Option.toList_some, Option.toList_none, List.cons_append, List.nil_append, Value.category, true_and, k_0, k_1, k_2, k_3, k_4, false_implies, true_implies, reduceCtorEq, hH]
  simp only [fi_const, fi_iload, fi_aload, fi_istore, fi_astore, fi_iinc, fi_bin, fi_div, fi_un, fi_dup, fi_dup2, fi_pop, fi_if, fi_cmp, fi_getf, fi_putf, fi_putr, fi_ald, fi_ast, fi_alen, fi_iret, fi_zret, fi_vret, fi_cut, fi_no, fi_s0, fi_s1, fi_s2, fi_s3, fi_s4, fi_v0, fi_v1, fi_v2, fi_v3, fi_v4, fi_v5, fi_n0, fi_n1, fi_n2, fi_mm, fi_stat, fi_alds, fi_tsw, List.getElem?_cons_zero, List.getElem?_cons_succ, List.set_cons_zero, List.set_cons_succ, List.length_cons, List.length_nil, Option.toList_some, Option.toList_none, List.cons_append, List.nil_append, Value.category, true_and, k_0, k_1, k_2, k_3, k_4, false_implies, true_implies, reduceCtorEq, hX.1]
  refine ⟨by decide, ⟨_, hH⟩, hc1.mono ?_⟩
  rintro r M' ⟨rfl, rfl⟩
  simp only [fi_const, fi_iload, fi_aload, fi_istore, fi_astore, fi_iinc, fi_bin, fi_div, fi_un, fi_dup, fi_dup2, fi_pop, fi_if, fi_cmp, fi_getf, fi_putf, fi_putr, fi_ald, fi_ast, fi_alen, fi_iret, fi_zret, fi_vret, fi_cut, fi_no, fi_s0, fi_s1, fi_s2, fi_s3, fi_s4, fi_v0, fi_v1, fi_v2, fi_v3, fi_v4, fi_v5, fi_n0, fi_n1, fi_n2, fi_mm, fi_stat, fi_alds, fi_tsw, List.getElem?_cons_zero, List.getElem?_cons_succ, List.set_cons_zero, List.set_cons_succ, List.length_cons, List.length_nil, Option.toList_some, Option.toList_none, List.cons_append, List.nil_append, Value.category, true_and, k_0, k_1, k_2, k_3, k_4, false_implies, true_implies, reduceCtorEq]
  have hV' := okV_ld (V := V) f5
  have c : ∀ a, a ≠ 0 → a ≠ 46 → a < 2 ∨ 45 < a → fs_u σ2 46 0 0 a = σ a := fun a h1 h2 h3 => by rw [fs_u_ne h2, s1 a (by omega), fs_u_ne h1, f1 a (by omega), fs_u_ne h1]
  have cz : fs_u σ2 46 0 0 0 1 = 0 ∧ fs_u σ2 46 0 0 0 2 = -1 := by
    rw [fs_u_ne (by decide), s1 0 (by omega)]
    refine ⟨?_, u_eq ..⟩
    simp only [fs_u]; rw [if_neg (by decide), f1 0 (by omega)]; simp [fs_u]
  have h3 : IC0 (fs_u σ2 46 0 0) (ldV V Z.1 Z.2.1) Z.2.2.1.1 Z.2.2.1.2.1 Z.2.2.1.2.2 0 0 := by
    unfold IC0
    simp only [v_lo, v_le, v_ni, v_ca, v_dy, ldV_2, ldV_4]
    have k : ∀ a, a ≠ 46 → fs_u σ2 46 0 0 a = σ2 a := fun a ha => fs_u_ne ha
    refine ⟨by rw [k 2 (by decide)]; exact s2, by rw [k 3 (by decide), k 4 (by decide), k 5 (by decide)]; exact s3, by rw [k 6 (by decide), k 7 (by decide)]; exact s4, by rw [k 8 (by decide), k 9 (by decide), k 10 (by decide), k 11 (by decide)]; exact s5, by rw [k 12 (by decide)]; exact s6, by rw [k 13 (by decide)]; exact s7, u_eq .., fun b hb => absurd hb (by omega), cz.1, fun i hi => absurd hi (Nat.not_lt_zero i), by rw [cz.2]; simp [ldV]⟩
  refine ⟨by decide, ⟨_, hX.1⟩, (c_refresh hX hS hV'.1 hV'.2.1 h3).mono ?_⟩
  rintro r M' ⟨rfl, σ4, rfl, h4, hs4⟩
  simp only [fi_const, fi_iload, fi_aload, fi_istore, fi_astore, fi_iinc, fi_bin, fi_div, fi_un, fi_dup, fi_dup2, fi_pop, fi_if, fi_cmp, fi_getf, fi_putf, fi_putr, fi_ald, fi_ast, fi_alen, fi_iret, fi_zret, fi_vret, fi_cut, fi_no, fi_s0, fi_s1, fi_s2, fi_s3, fi_s4, fi_v0, fi_v1, fi_v2, fi_v3, fi_v4, fi_v5, fi_n0, fi_n1, fi_n2, fi_mm, fi_stat, fi_alds, fi_tsw, List.getElem?_cons_zero, List.getElem?_cons_succ, List.set_cons_zero, List.set_cons_succ, List.length_cons, List.length_nil, Option.toList_some, Option.toList_none, List.cons_append, List.nil_append, Value.category, true_and, k_0, k_1, k_2, k_3, k_4, false_implies, true_implies, reduceCtorEq]
  exact ⟨σ4, rfl, h4, fun a ha => by rw [hs4 a ha, c a (by omega) (by omega) (by omega)], f5⟩
theorem B_load (hp : LPs σ V nL nA nS kp nb) (x : Int32) : bth g fr τ σ m_X8_load m_X9_load [.ref 0, .int x] [.ref 56, .int x] := by
  have hb := hp.1.2.2.2.2.2.2.1
  by_cases q : x < 0 ∨ nI nb < x
  · exact q2b hp (k_load_2 S70_X q) (n_load_2 S70_X hp.1 q)
  · have q1 : inI x (nb + 1) := by
      refine ⟨fun z => q (Or.inl z), fun z => q (Or.inr ?_)⟩
      refine Int32.lt_of_lt_of_le ?_ z
      exact (nI_ltI (by omega) (by omega)).mpr (by omega)
    obtain ⟨n, hn, rfl⟩ := inI_nat q1 (by omega)
    cases w : pTxt (bN V) n (n + 1) 0 (Z0 (V 2) (V 4)) 0 with
    | inl e => exact d2b hp (k_load_e S70_X S70_L hp.1 (by omega) w) (n_load_e S70_X hp.1 (by omega) w) (okV_le hp.1)
    | inr p =>
      obtain ⟨Z, c⟩ := p
      refine ⟨nI c, (k_load_zo S70_X S70_S S70_L hp.1 (by omega) w hp.2.1).mono ?_⟩
      rintro r M' ⟨rfl, σ1, rfl, h1, s1, hz⟩
      refine ⟨rfl, σ1, rfl, (n_load_z S70_X hp.1 (by omega) w σ1 (hp.2.2.hi s1)).mono ?_⟩
      rintro r M' ⟨rfl, σ2, rfl, h2, s2, t2⟩
      exact ⟨rfl, σ2, rfl, _, _, _, _, _, _, okV_ld hz, h1.low (fun a ha => s2 a (by omega)), h2⟩
theorem L_load (hp : LPs σ V nL nA nS kp nb) (hi : i < N) (hu : bd u i) (hx : scO g i) (K : nxt g N d i Q) : fs_R g (m_L_law N) d u 317 (lls i v5 v6) [] ((S70, fr), σ, τ) Q := by
  obtain ⟨x, hb⟩ := B_load (g := g) (fr := fr) (τ := τ) hp (fs_Xs g (6 * i + 1))
  refine S_L_law_317 (hu.B hi) ?_
  simp only [T_L_law_317, lls, fi_scr, sc_1, scI hx (show 1 < 6 by decide), scC hx (show 1 < 6 by decide), sc_2, scI hx (show 2 < 6 by decide), scC hx (show 2 < 6 by decide), fi_const, fi_iload, fi_aload, fi_istore, fi_astore, fi_iinc, fi_bin, fi_div, fi_un, fi_dup, fi_dup2, fi_pop, fi_if, fi_cmp, fi_getf, fi_putf, fi_putr, fi_ald, fi_ast, fi_alen, fi_iret, fi_zret, fi_vret, fi_cut, fi_no, fi_s0, fi_s1, fi_s2, fi_s3, fi_s4, fi_v0, fi_v1, fi_v2, fi_v3, fi_v4, fi_v5, fi_n0, fi_n1, fi_n2, fi_mm, fi_stat, fi_alds, fi_tsw, List.getElem?_cons_zero, List.getElem?_cons_succ, List.set_cons_zero, List.set_cons_succ, List.length_cons, List.length_nil, Option.toList_some, Option.toList_none, List.cons_append, List.nil_append, Value.category, true_and, k_0, k_1, k_2, k_3, k_4, false_implies, true_implies, reduceCtorEq]
  refine ⟨by decide, ⟨_, S70_X.1⟩, hb.mono ?_⟩
  rintro r M' ⟨rfl, σ1, rfl, hq⟩
  simp only [fi_scr, sc_1, scI hx (show 1 < 6 by decide), scC hx (show 1 < 6 by decide), sc_2, scI hx (show 2 < 6 by decide), scC hx (show 2 < 6 by decide), fi_const, fi_iload, fi_aload, fi_istore, fi_astore, fi_iinc, fi_bin, fi_div, fi_un, fi_dup, fi_dup2, fi_pop, fi_if, fi_cmp, fi_getf, fi_putf, fi_putr, fi_ald, fi_ast, fi_alen, fi_iret, fi_zret, fi_vret, fi_cut, fi_no, fi_s0, fi_s1, fi_s2, fi_s3, fi_s4, fi_v0, fi_v1, fi_v2, fi_v3, fi_v4, fi_v5, fi_n0, fi_n1, fi_n2, fi_mm, fi_stat, fi_alds, fi_tsw, List.getElem?_cons_zero, List.getElem?_cons_succ, List.set_cons_zero, List.set_cons_succ, List.length_cons, List.length_nil, Option.toList_some, Option.toList_none, List.cons_append, List.nil_append, Value.category, true_and, k_0, k_1, k_2, k_3, k_4, false_implies, true_implies, reduceCtorEq]
  refine ⟨by decide, ⟨_, S70_X.m.1⟩, hq.mono ?_⟩
  rintro r M' ⟨rfl, σ2, rfl, h2⟩
  simp only [fi_const, fi_iload, fi_aload, fi_istore, fi_astore, fi_iinc, fi_bin, fi_div, fi_un, fi_dup, fi_dup2, fi_pop, fi_if, fi_cmp, fi_getf, fi_putf, fi_putr, fi_ald, fi_ast, fi_alen, fi_iret, fi_zret, fi_vret, fi_cut, fi_no, fi_s0, fi_s1, fi_s2, fi_s3, fi_s4, fi_v0, fi_v1, fi_v2, fi_v3, fi_v4, fi_v5, fi_n0, fi_n1, fi_n2, fi_mm, fi_stat, fi_alds, fi_tsw, List.getElem?_cons_zero, List.getElem?_cons_succ, List.set_cons_zero, List.set_cons_succ, List.length_cons, List.length_nil, Option.toList_some, Option.toList_none, List.cons_append, List.nil_append, Value.category, true_and, k_0, k_1, k_2, k_3, k_4, false_implies, true_implies, reduceCtorEq]
  exact ⟨K u σ2 τ fr v5 v6 h2 hu.s, fun z => absurd trivial z⟩
theorem L_waitingFor (hl : g.1.stackTraces = false) (hp : LPs σ V nL nA nS kp nb) (hi : i < N) (hu : bd u i) (hx : scO g i) (K : nxt g N d i Q) : fs_R g (m_L_law N) d u 1634 (lls i v5 v6) [] ((S70, fr), σ, τ) Q := by
  obtain ⟨hT, hN, h9, -⟩ := id hp.1
  have hLL := hT.2.2.2.1
  have hC := hp.2.1
  have hM := S70_X.m
  have i0 : vp_in 0 1 := pk_in 0 1 (by decide) (by decide) (by decide)
  refine S_L_law_1634 (hu.B hi) ?_
  simp only [T_L_law_1634, lls, fi_scr, sc_1, sc_2, scI hx (show 1 < 6 by decide), scI hx (show 2 < 6 by decide), scC hx (show 1 < 6 by decide), scC hx (show 2 < 6 by decide), fi_h3, fi_h4, fi_const, fi_iload, fi_aload, fi_istore, fi_astore, fi_iinc, fi_bin, fi_div, fi_un, fi_dup, fi_dup2, fi_pop, fi_if, fi_cmp, fi_getf, fi_putf, fi_putr, fi_ald, fi_ast, fi_alen, fi_iret, fi_zret, fi_vret, fi_cut, fi_no, fi_s0, fi_s1, fi_s2, fi_s3, fi_s4, fi_v0, fi_v1, fi_v2, fi_v3, fi_v4, fi_v5, fi_n0, fi_n1, fi_n2, fi_mm, fi_stat, fi_alds, fi_tsw, List.getElem?_cons_zero, List.getElem?_cons_succ, List.set_cons_zero, List.set_cons_succ, List.length_cons, List.length_nil, Option.toList_some, Option.toList_none, List.cons_append, List.nil_append, Value.category, true_and, k_0, k_1, k_2, k_3, k_4, false_implies, true_implies, reduceCtorEq]
  refine ⟨fun z => ?_, fun z => ?_⟩
  · by_cases q : inI (fs_Xs g (6 * i + 1)) nL
    · obtain ⟨a, ha, e⟩ := inI_nat q (by omega)
      rw [e]
      refine ⟨by decide, (h_waitingFor S70_X S70_O (a_waitingFor S70_X hT ha (nt := 0) (Or.inl rfl)) hC).mono ?_⟩
      rintro r M' ⟨rfl, σ1, rfl, h1, s1⟩
      simp only [fi_const, fi_iload, fi_aload, fi_istore, fi_astore, fi_iinc, fi_bin, fi_div, fi_un, fi_dup, fi_dup2, fi_pop, fi_if, fi_cmp, fi_getf, fi_putf, fi_putr, fi_ald, fi_ast, fi_alen, fi_iret, fi_zret, fi_vret, fi_cut, fi_no, fi_s0, fi_s1, fi_s2, fi_s3, fi_s4, fi_v0, fi_v1, fi_v2, fi_v3, fi_v4, fi_v5, fi_n0, fi_n1, fi_n2, fi_mm, fi_stat, fi_alds, fi_tsw, List.getElem?_cons_zero, List.getElem?_cons_succ, List.set_cons_zero, List.set_cons_succ, List.length_cons, List.length_nil, Option.toList_some, Option.toList_none, List.cons_append, List.nil_append, Value.category, true_and, k_0, k_1, k_2, k_3, k_4, false_implies, true_implies, reduceCtorEq]
      refine ⟨fun _ => ?_, fun z2 => absurd z z2⟩
      refine ⟨by decide, ⟨_, hM.1⟩, (b_waitingFor S70_X hT ha (nt := 0) (Or.inl rfl) σ1 (hp.2.2.hi s1)).mono ?_⟩
      rintro r M' ⟨rfl, σ2, rfl, h2, s2, t2⟩
      simp only [fi_const, fi_iload, fi_aload, fi_istore, fi_astore, fi_iinc, fi_bin, fi_div, fi_un, fi_dup, fi_dup2, fi_pop, fi_if, fi_cmp, fi_getf, fi_putf, fi_putr, fi_ald, fi_ast, fi_alen, fi_iret, fi_zret, fi_vret, fi_cut, fi_no, fi_s0, fi_s1, fi_s2, fi_s3, fi_s4, fi_v0, fi_v1, fi_v2, fi_v3, fi_v4, fi_v5, fi_n0, fi_n1, fi_n2, fi_mm, fi_stat, fi_alds, fi_tsw, List.getElem?_cons_zero, List.getElem?_cons_succ, List.set_cons_zero, List.set_cons_succ, List.length_cons, List.length_nil, Option.toList_some, Option.toList_none, List.cons_append, List.nil_append, Value.category, true_and, k_0, k_1, k_2, k_3, k_4, false_implies, true_implies, reduceCtorEq]
      refine ⟨by decide, ⟨_, hM.1⟩, (c_thrown hM).mono ?_⟩
      rintro r M' ⟨rfl, rfl⟩
      rw [t2]
      simp only [fi_lald, fi_i2l, fi_lcmp, S70_O, i0, uL_eq, lgc, fi_const, fi_iload, fi_aload, fi_istore, fi_astore, fi_iinc, fi_bin, fi_div, fi_un, fi_dup, fi_dup2, fi_pop, fi_if, fi_cmp, fi_getf, fi_putf, fi_putr, fi_ald, fi_ast, fi_alen, fi_iret, fi_zret, fi_vret, fi_cut, fi_no, fi_s0, fi_s1, fi_s2, fi_s3, fi_s4, fi_v0, fi_v1, fi_v2, fi_v3, fi_v4, fi_v5, fi_n0, fi_n1, fi_n2, fi_mm, fi_stat, fi_alds, fi_tsw, List.getElem?_cons_zero, List.getElem?_cons_succ, List.set_cons_zero, List.set_cons_succ, List.length_cons, List.length_nil, Option.toList_some, Option.toList_none, List.cons_append, List.nil_append, Value.category, true_and, k_0, k_1, k_2, k_3, k_4, false_implies, true_implies, reduceCtorEq]
      exact ⟨⟨⟨K _ σ2 _ fr _ _ ⟨V, nL, nA, nS, kp, nb, hp.1, h1.low (fun a ha => s2 a (by omega)), h2⟩ hu.h, fun z => absurd trivial z⟩, fun z => absurd trivial z⟩, fun z => absurd trivial z⟩
    · refine ⟨by decide, (y_waitingFor S70_X hl (by rw [hC.1.1]; exact inI_no q)).mono ?_⟩
      rintro r M' ⟨rfl, rfl⟩
      simp only [fi_const, fi_iload, fi_aload, fi_istore, fi_astore, fi_iinc, fi_bin, fi_div, fi_un, fi_dup, fi_dup2, fi_pop, fi_if, fi_cmp, fi_getf, fi_putf, fi_putr, fi_ald, fi_ast, fi_alen, fi_iret, fi_zret, fi_vret, fi_cut, fi_no, fi_s0, fi_s1, fi_s2, fi_s3, fi_s4, fi_v0, fi_v1, fi_v2, fi_v3, fi_v4, fi_v5, fi_n0, fi_n1, fi_n2, fi_mm, fi_stat, fi_alds, fi_tsw, List.getElem?_cons_zero, List.getElem?_cons_succ, List.set_cons_zero, List.set_cons_succ, List.length_cons, List.length_nil, Option.toList_some, Option.toList_none, List.cons_append, List.nil_append, Value.category, true_and, k_0, k_1, k_2, k_3, k_4, false_implies, true_implies, reduceCtorEq]
      refine ⟨fun _ => ?_, fun z2 => absurd z z2⟩
      refine ⟨by decide, ⟨_, hM.1⟩, (b_waitingFor_x S70_X hT q 0 σ hp.2.2).mono ?_⟩
      rintro r M' ⟨rfl, σ2, rfl, h2, s2, t2⟩
      simp only [fi_const, fi_iload, fi_aload, fi_istore, fi_astore, fi_iinc, fi_bin, fi_div, fi_un, fi_dup, fi_dup2, fi_pop, fi_if, fi_cmp, fi_getf, fi_putf, fi_putr, fi_ald, fi_ast, fi_alen, fi_iret, fi_zret, fi_vret, fi_cut, fi_no, fi_s0, fi_s1, fi_s2, fi_s3, fi_s4, fi_v0, fi_v1, fi_v2, fi_v3, fi_v4, fi_v5, fi_n0, fi_n1, fi_n2, fi_mm, fi_stat, fi_alds, fi_tsw, List.getElem?_cons_zero, List.getElem?_cons_succ, List.set_cons_zero, List.set_cons_succ, List.length_cons, List.length_nil, Option.toList_some, Option.toList_none, List.cons_append, List.nil_append, Value.category, true_and, k_0, k_1, k_2, k_3, k_4, false_implies, true_implies, reduceCtorEq]
      refine ⟨by decide, ⟨_, hM.1⟩, (c_thrown hM).mono ?_⟩
      rintro r M' ⟨rfl, rfl⟩
      rw [t2]
      simp only [fi_lald, fi_i2l, fi_lcmp, S70_O, fi_const, fi_iload, fi_aload, fi_istore, fi_astore, fi_iinc, fi_bin, fi_div, fi_un, fi_dup, fi_dup2, fi_pop, fi_if, fi_cmp, fi_getf, fi_putf, fi_putr, fi_ald, fi_ast, fi_alen, fi_iret, fi_zret, fi_vret, fi_cut, fi_no, fi_s0, fi_s1, fi_s2, fi_s3, fi_s4, fi_v0, fi_v1, fi_v2, fi_v3, fi_v4, fi_v5, fi_n0, fi_n1, fi_n2, fi_mm, fi_stat, fi_alds, fi_tsw, List.getElem?_cons_zero, List.getElem?_cons_succ, List.set_cons_zero, List.set_cons_succ, List.length_cons, List.length_nil, Option.toList_some, Option.toList_none, List.cons_append, List.nil_append, Value.category, true_and, k_0, k_1, k_2, k_3, k_4, false_implies, true_implies, reduceCtorEq]
      exact ⟨⟨fun z => absurd z (by decide), fun _ => K _ σ2 _ false _ _ ⟨V, nL, nA, nS, kp, nb, hp.1, hC.low (fun a ha => s2 a (by omega)), h2⟩ hu.h⟩, fun z => absurd trivial z⟩
  · by_cases q : inI (fs_Xs g (6 * i + 1)) nL
    · obtain ⟨a, ha, e⟩ := inI_nat q (by omega)
      rw [e]
      refine ⟨by decide, (h_waitingFor S70_X S70_O (a_waitingFor S70_X hT ha (nt := 1) (Or.inr rfl)) hC).mono ?_⟩
      rintro r M' ⟨rfl, σ1, rfl, h1, s1⟩
      simp only [fi_const, fi_iload, fi_aload, fi_istore, fi_astore, fi_iinc, fi_bin, fi_div, fi_un, fi_dup, fi_dup2, fi_pop, fi_if, fi_cmp, fi_getf, fi_putf, fi_putr, fi_ald, fi_ast, fi_alen, fi_iret, fi_zret, fi_vret, fi_cut, fi_no, fi_s0, fi_s1, fi_s2, fi_s3, fi_s4, fi_v0, fi_v1, fi_v2, fi_v3, fi_v4, fi_v5, fi_n0, fi_n1, fi_n2, fi_mm, fi_stat, fi_alds, fi_tsw, List.getElem?_cons_zero, List.getElem?_cons_succ, List.set_cons_zero, List.set_cons_succ, List.length_cons, List.length_nil, Option.toList_some, Option.toList_none, List.cons_append, List.nil_append, Value.category, true_and, k_0, k_1, k_2, k_3, k_4, false_implies, true_implies, reduceCtorEq]
      refine ⟨fun z2 => absurd z2 z, fun _ => ?_⟩
      refine ⟨by decide, ⟨_, hM.1⟩, (b_waitingFor S70_X hT ha (nt := 1) (Or.inr rfl) σ1 (hp.2.2.hi s1)).mono ?_⟩
      rintro r M' ⟨rfl, σ2, rfl, h2, s2, t2⟩
      simp only [fi_const, fi_iload, fi_aload, fi_istore, fi_astore, fi_iinc, fi_bin, fi_div, fi_un, fi_dup, fi_dup2, fi_pop, fi_if, fi_cmp, fi_getf, fi_putf, fi_putr, fi_ald, fi_ast, fi_alen, fi_iret, fi_zret, fi_vret, fi_cut, fi_no, fi_s0, fi_s1, fi_s2, fi_s3, fi_s4, fi_v0, fi_v1, fi_v2, fi_v3, fi_v4, fi_v5, fi_n0, fi_n1, fi_n2, fi_mm, fi_stat, fi_alds, fi_tsw, List.getElem?_cons_zero, List.getElem?_cons_succ, List.set_cons_zero, List.set_cons_succ, List.length_cons, List.length_nil, Option.toList_some, Option.toList_none, List.cons_append, List.nil_append, Value.category, true_and, k_0, k_1, k_2, k_3, k_4, false_implies, true_implies, reduceCtorEq]
      refine ⟨by decide, ⟨_, hM.1⟩, (c_thrown hM).mono ?_⟩
      rintro r M' ⟨rfl, rfl⟩
      rw [t2]
      simp only [fi_lald, fi_i2l, fi_lcmp, S70_O, i0, uL_eq, lgc, fi_const, fi_iload, fi_aload, fi_istore, fi_astore, fi_iinc, fi_bin, fi_div, fi_un, fi_dup, fi_dup2, fi_pop, fi_if, fi_cmp, fi_getf, fi_putf, fi_putr, fi_ald, fi_ast, fi_alen, fi_iret, fi_zret, fi_vret, fi_cut, fi_no, fi_s0, fi_s1, fi_s2, fi_s3, fi_s4, fi_v0, fi_v1, fi_v2, fi_v3, fi_v4, fi_v5, fi_n0, fi_n1, fi_n2, fi_mm, fi_stat, fi_alds, fi_tsw, List.getElem?_cons_zero, List.getElem?_cons_succ, List.set_cons_zero, List.set_cons_succ, List.length_cons, List.length_nil, Option.toList_some, Option.toList_none, List.cons_append, List.nil_append, Value.category, true_and, k_0, k_1, k_2, k_3, k_4, false_implies, true_implies, reduceCtorEq]
      exact ⟨⟨⟨K _ σ2 _ fr _ _ ⟨V, nL, nA, nS, kp, nb, hp.1, h1.low (fun a ha => s2 a (by omega)), h2⟩ hu.h, fun z => absurd trivial z⟩, fun z => absurd trivial z⟩, fun z => absurd trivial z⟩
    · refine ⟨by decide, (y_waitingFor S70_X hl (by rw [hC.1.1]; exact inI_no q)).mono ?_⟩
      rintro r M' ⟨rfl, rfl⟩
      simp only [fi_const, fi_iload, fi_aload, fi_istore, fi_astore, fi_iinc, fi_bin, fi_div, fi_un, fi_dup, fi_dup2, fi_pop, fi_if, fi_cmp, fi_getf, fi_putf, fi_putr, fi_ald, fi_ast, fi_alen, fi_iret, fi_zret, fi_vret, fi_cut, fi_no, fi_s0, fi_s1, fi_s2, fi_s3, fi_s4, fi_v0, fi_v1, fi_v2, fi_v3, fi_v4, fi_v5, fi_n0, fi_n1, fi_n2, fi_mm, fi_stat, fi_alds, fi_tsw, List.getElem?_cons_zero, List.getElem?_cons_succ, List.set_cons_zero, List.set_cons_succ, List.length_cons, List.length_nil, Option.toList_some, Option.toList_none, List.cons_append, List.nil_append, Value.category, true_and, k_0, k_1, k_2, k_3, k_4, false_implies, true_implies, reduceCtorEq]
      refine ⟨fun z2 => absurd z2 z, fun _ => ?_⟩
      refine ⟨by decide, ⟨_, hM.1⟩, (b_waitingFor_x S70_X hT q 1 σ hp.2.2).mono ?_⟩
      rintro r M' ⟨rfl, σ2, rfl, h2, s2, t2⟩
      simp only [fi_const, fi_iload, fi_aload, fi_istore, fi_astore, fi_iinc, fi_bin, fi_div, fi_un, fi_dup, fi_dup2, fi_pop, fi_if, fi_cmp, fi_getf, fi_putf, fi_putr, fi_ald, fi_ast, fi_alen, fi_iret, fi_zret, fi_vret, fi_cut, fi_no, fi_s0, fi_s1, fi_s2, fi_s3, fi_s4, fi_v0, fi_v1, fi_v2, fi_v3, fi_v4, fi_v5, fi_n0, fi_n1, fi_n2, fi_mm, fi_stat, fi_alds, fi_tsw, List.getElem?_cons_zero, List.getElem?_cons_succ, List.set_cons_zero, List.set_cons_succ, List.length_cons, List.length_nil, Option.toList_some, Option.toList_none, List.cons_append, List.nil_append, Value.category, true_and, k_0, k_1, k_2, k_3, k_4, false_implies, true_implies, reduceCtorEq]
      refine ⟨by decide, ⟨_, hM.1⟩, (c_thrown hM).mono ?_⟩
      rintro r M' ⟨rfl, rfl⟩
      rw [t2]
      simp only [fi_lald, fi_i2l, fi_lcmp, S70_O, fi_const, fi_iload, fi_aload, fi_istore, fi_astore, fi_iinc, fi_bin, fi_div, fi_un, fi_dup, fi_dup2, fi_pop, fi_if, fi_cmp, fi_getf, fi_putf, fi_putr, fi_ald, fi_ast, fi_alen, fi_iret, fi_zret, fi_vret, fi_cut, fi_no, fi_s0, fi_s1, fi_s2, fi_s3, fi_s4, fi_v0, fi_v1, fi_v2, fi_v3, fi_v4, fi_v5, fi_n0, fi_n1, fi_n2, fi_mm, fi_stat, fi_alds, fi_tsw, List.getElem?_cons_zero, List.getElem?_cons_succ, List.set_cons_zero, List.set_cons_succ, List.length_cons, List.length_nil, Option.toList_some, Option.toList_none, List.cons_append, List.nil_append, Value.category, true_and, k_0, k_1, k_2, k_3, k_4, false_implies, true_implies, reduceCtorEq]
      exact ⟨⟨fun z => absurd z (by decide), fun _ => K _ σ2 _ false _ _ ⟨V, nL, nA, nS, kp, nb, hp.1, hC.low (fun a ha => s2 a (by omega)), h2⟩ hu.h⟩, fun z => absurd trivial z⟩
end LC5
