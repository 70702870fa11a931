/-! ===== exchange of the class; exchanges that change nothing ===== -/
theorem brF_congr {ni cs ni' cs' : Nat → Int32} (h : ∀ e, e < 12 → ni e = ni' e ∧ cs e = cs' e) : ∀ n k, k + n ≤ 11 → brF ni cs n k = brF ni' cs' n k
  | 0, k, _ => rfl
  | n + 1, k, hk => by
    have e : clF ni cs k (k + 1) = clF ni' cs' k (k + 1) := by
      unfold clF
      rw [(h k (by omega)).1, (h k (by omega)).2, (h (k + 1) (by omega)).1, (h (k + 1) (by omega)).2]
    simp only [brF]
    rw [e, brF_congr h n (k + 1) (by omega)]
section PD4
variable {g : fs_G} {d : Nat} {S : List fs_Sh} {fr : Bool} {σ : Nat → Nat → Int32} {τ : Nat → Nat → Int64} {V : Vt} {nL nA nS kp nb : Nat}
theorem v_exch (hX : shX S) (hT : okT V nL nA nS) (hN : okN V nS (V 4)) (h : IC σ V nL nA nS kp nb) {a b : Nat} (ha : a < 12) (hb : b < 12) : fs_Ct g m_X0_buildExchanged [.ref 20, .int (nI a), .int (nI b)] ((S, fr), σ, τ) (fun r M' => r = none ∧ ∃ σ', M' = ((S, fr), σ', τ) ∧ IC σ' V nL nA nS kp nb ∧ (∀ a, 56 ≤ a → σ' a = σ a) ∧ brF (σ' 23) (σ' 25) 11 0 = !exR V nS a b) := by
  have hP := hX.2.2.1
  have hD := hX.2.2.2.2.1
  have hn := hT.2.2.2.2.2.1
  have h4 := h.2.2.2.1
  have h01 : b01 (v_ni V) nS := hT.2.2.2.2.2.2.2.1
  have hd : ∀ j, j < nS → exD (σ 12 j) (nI a) (nI b) = fr_ (exV V nS a b) 4 j := fun j hj => by
    rw [fr_ex _ _ _ _ hj, h.2.2.2.2.1 j (by omega)]
  refine (c_buildExchanged hD hP (by decide) hn (nI a) (nI b) h.1.2.2 (fun j hj => by rw [show 2 + 8 = 10 from rfl, (h4 j hj).2.2.1]; exact h01 j hj)).mono ?_
  rintro r M' ⟨rfl, σ', rfl, hs, hsh⟩
  have c : ∀ a, ¬ (20 < a ∧ a < 26) → σ' a = σ a := fun a ha => hs a ha
  refine ⟨rfl, σ', rfl, h.keep (fun a _ h2 _ => c a (by omega)), fun a ha => c a (by omega), ?_⟩
  have hco : cons (fun k => exD (σ (2 + 10) k) (nI a) (nI b)) (σ' (2 + 6)) (σ' (2 + 8)) nS := by
    rw [show 2 + 6 = 8 from rfl, show 2 + 8 = 10 from rfl, c 8 (by omega), c 10 (by omega)]
    intro i j f hi hj hf e1 e2
    rw [(h4 i hi).1, (h4 j hj).1, (h4 i hi).2.2.1, (h4 j hj).2.2.1]
    exact cons_ex ha hb hN.2.2.2.2.2.1 i j f hi hj hf ((hd i hi).symm.trans e1) ((hd j hj).symm.trans e2)
  have ht := hsh.tab hco
  unfold exR
  rw [rs_br h01, Bool.not_not]
  refine brF_congr (fun e he => ?_) 11 0 (by decide)
  obtain ⟨-, -, t3, -, t5⟩ := ht e he
  refine ⟨t3.trans (pnF_congr hd (fun j hj => ?_)), t5.trans (caF_congr hd (fun j hj => ?_))⟩
  · rw [show 2 + 8 = 10 from rfl, c 10 (by omega)]; exact (h4 j hj).2.2.1
  · rw [show 2 + 9 = 11 from rfl, c 11 (by omega)]; exact (h4 j hj).2.2.2
theorem k_ex (hX : shX S) (hS : shS S) (hV : okV V nL nA nS kp nb) {a b : Nat} (ha : a < 12) (hb : b < 12) (hr : exR V nS a b = true) : chgC g S fr τ V nL nA nS kp nb m_X8_exchange [.ref 0, .int (nI a), .int (nI b)] (exC V nA nS kp a b) (chV V kp (exV V nS a b)) (k0 kp + 1) := by
  intro σ h
  obtain ⟨hT, hN, h9, hkp, -⟩ := id hV
  have hn := hT.2.2.2.2.2.1
  have hP := hX.2.2.1
  have hD := hX.2.2.2.1
  have hD2 := hX.2.2.2.2.1
  have hH := hX.2.2.2.2.2.1
  have h01 : b01 (v_ni V) nS := hT.2.2.2.2.2.2.2.1
  have hV' := okV_ch hV (okN_ex hT hN ha hb ((rested_iff h01).mp hr))
  refine fs_enterC (by decide) (by simp [fs_ok]) (Nat.le_of_ble_eq_true rfl) (fun d => S_X8_exchange_0 ?_)
  show T_X8_exchange_0 g d _ [.ref 0, .int (nI a), .int (nI b), .null] [] _
  simp only [T_X8_exchange_0, fi_const, fi_iload, fi_aload, fi_istore, fi_astore, fi_iinc, fi_bin, fi_div, fi_un, fi_dup, fi_dup2, fi_pop, fi_if, fi_cmp, fi_getf, fi_putf, fi_putr, fi_ald, fi_ast, fi_alen, fi_iret, fi_zret, fi_vret, fi_cut, fi_no, fi_s0, fi_s1, fi_s2, fi_s3, fi_s4, fi_v0, fi_v1, fi_v2, fi_v3, fi_v4, fi_v5, fi_n0, fi_n1, fi_n2, fi_mm, fi_stat, fi_alds, fi_tsw, List.getElem?_cons_zero, List.getElem?_cons_succ, List.set_cons_zero, List.set_cons_succ, List.length_cons, List.length_nil, Option.toList_some, Option.toList_none, List.cons_append, List.nil_append, Value.category, true_and, k_0, k_1, k_2, k_3, k_4, false_implies, true_implies, reduceCtorEq]
  simp only [fi_const, fi_iload, fi_aload, fi_istore, fi_astore, fi_iinc, fi_bin, fi_div, fi_un, fi_dup, fi_dup2, fi_pop, fi_if, fi_cmp, fi_getf, fi_putf, fi_putr, fi_ald, fi_ast, fi_alen, fi_iret, fi_zret, fi_vret, fi_cut, fi_no, fi_s0, fi_s1, fi_s2, fi_s3, fi_s4, fi_v0, fi_v1, fi_v2, fi_v3, fi_v4, fi_v5, fi_n0, fi_n1, fi_n2, fi_mm, fi_stat, fi_alds, fi_tsw, List.getElem?_cons_zero, List.getElem?_cons_succ, List.set_cons_zero, List.set_cons_succ, List.length_cons, List.length_nil, Option.toList_some, Option.toList_none, List.cons_append, List.nil_append, Value.category, true_and, k_0, k_1, k_2, k_3, k_4, false_implies, true_implies, reduceCtorEq, hX.1]
  refine ⟨fun z => absurd z (nI_pos (by omega)), fun _ => pk_le 12 a (fun z => by omega) (fun _ => ⟨fun z => absurd z (nI_pos (by omega)), fun _ => pk_lt b 12 (fun _ => ⟨by decide, ⟨_, hD2.1⟩, (v_exch hX hT hN h ha hb).mono ?_⟩) (fun z => by omega)⟩)⟩
  rintro r M' ⟨rfl, σ1, rfl, h1, hs1, hbr⟩
  simp only [fi_const, fi_iload, fi_aload, fi_istore, fi_astore, fi_iinc, fi_bin, fi_div, fi_un, fi_dup, fi_dup2, fi_pop, fi_if, fi_cmp, fi_getf, fi_putf, fi_putr, fi_ald, fi_ast, fi_alen, fi_iret, fi_zret, fi_vret, fi_cut, fi_no, fi_s0, fi_s1, fi_s2, fi_s3, fi_s4, fi_v0, fi_v1, fi_v2, fi_v3, fi_v4, fi_v5, fi_n0, fi_n1, fi_n2, fi_mm, fi_stat, fi_alds, fi_tsw, List.getElem?_cons_zero, List.getElem?_cons_succ, List.set_cons_zero, List.set_cons_succ, List.length_cons, List.length_nil, Option.toList_some, Option.toList_none, List.cons_append, List.nil_append, Value.category, true_and, k_0, k_1, k_2, k_3, k_4, false_implies, true_implies, reduceCtorEq, hX.1]
  refine ⟨by decide, ⟨_, hD2.1⟩, (c_breaks hD2).mono ?_⟩
  rintro r M' ⟨rfl, rfl⟩
  rw [show 20 + 3 = 23 from rfl, show 20 + 5 = 25 from rfl, hbr, hr]
  simp only [fi_const, fi_iload, fi_aload, fi_istore, fi_astore, fi_iinc, fi_bin, fi_div, fi_un, fi_dup, fi_dup2, fi_pop, fi_if, fi_cmp, fi_getf, fi_putf, fi_putr, fi_ald, fi_ast, fi_alen, fi_iret, fi_zret, fi_vret, fi_cut, fi_no, fi_s0, fi_s1, fi_s2, fi_s3, fi_s4, fi_v0, fi_v1, fi_v2, fi_v3, fi_v4, fi_v5, fi_n0, fi_n1, fi_n2, fi_mm, fi_stat, fi_alds, fi_tsw, List.getElem?_cons_zero, List.getElem?_cons_succ, List.set_cons_zero, List.set_cons_succ, List.length_cons, List.length_nil, Option.toList_some, Option.toList_none, List.cons_append, List.nil_append, Value.category, true_and, k_0, k_1, k_2, k_3, k_4, false_implies, true_implies, reduceCtorEq, hX.1, bI_eq0, Bool.not_true]
  refine ⟨⟨by decide, ⟨_, hH⟩, (c_keep hX hkp h1.2.2.2.2.2.2.2.1).mono ?_⟩, fun z => absurd trivial z⟩
  rintro r M' ⟨rfl, σ2, rfl, hs2, s1, s2⟩
  simp only [fi_const, fi_iload, fi_aload, fi_istore, fi_astore, fi_iinc, fi_bin, fi_div, fi_un, fi_dup, fi_dup2, fi_pop, fi_if, fi_cmp, fi_getf, fi_putf, fi_putr, fi_ald, fi_ast, fi_alen, fi_iret, fi_zret, fi_vret, fi_cut, fi_no, fi_s0, fi_s1, fi_s2, fi_s3, fi_s4, fi_v0, fi_v1, fi_v2, fi_v3, fi_v4, fi_v5, fi_n0, fi_n1, fi_n2, fi_mm, fi_stat, fi_alds, fi_tsw, List.getElem?_cons_zero, List.getElem?_cons_succ, List.set_cons_zero, List.set_cons_succ, List.length_cons, List.length_nil, Option.toList_some, Option.toList_none, List.cons_append, List.nil_append, Value.category, true_and, k_0, k_1, k_2, k_3, k_4, false_implies, true_implies, reduceCtorEq]
  refine l_exC hX hn (nI a) (nI b) nS 0 σ2 (by omega) (by rw [hs2 2 (by omega)]; exact h1.1.2.2) (fun σ3 hs3 e3 => ?_)
  have h3 : IC0 σ3 (chV V kp (exV V nS a b)) nL nA nS (k0 kp + 1) nb := by
    refine IC0_ch h1 hkp hs2 s1 s2 (fun c _ h1 _ => hs3 c h1) (fun j hj => ?_) (fun i hi => ?_)
    · rw [e3 j, hs2 12 (by omega), h1.2.2.2.2.1 j hj]
      simp only [exV, exN]
      by_cases q : j < nS
      · rw [if_pos (by omega), if_pos (by omega)]; rfl
      · rw [if_neg (by omega), if_neg (by omega)]; rfl
    · rw [hs3 13 (by decide), hs2 13 (by omega)]
      simp only [exV, exN]
      rw [if_neg (by omega)]
      exact h1.set hi
  refine S_X8_exchange_58 ?_
  simp only [T_X8_exchange_58, fi_const, fi_iload, fi_aload, fi_istore, fi_astore, fi_iinc, fi_bin, fi_div, fi_un, fi_dup, fi_dup2, fi_pop, fi_if, fi_cmp, fi_getf, fi_putf, fi_putr, fi_ald, fi_ast, fi_alen, fi_iret, fi_zret, fi_vret, fi_cut, fi_no, fi_s0, fi_s1, fi_s2, fi_s3, fi_s4, fi_v0, fi_v1, fi_v2, fi_v3, fi_v4, fi_v5, fi_n0, fi_n1, fi_n2, fi_mm, fi_stat, fi_alds, fi_tsw, List.getElem?_cons_zero, List.getElem?_cons_succ, List.set_cons_zero, List.set_cons_succ, List.length_cons, List.length_nil, Option.toList_some, Option.toList_none, List.cons_append, List.nil_append, Value.category, true_and, k_0, k_1, k_2, k_3, k_4, false_implies, true_implies, reduceCtorEq, hX.1, hP.1, h3.1.2.2]
  refine pk_le nS nS (fun _ => ⟨by decide, ⟨_, rfl⟩, (c_refresh hX hS hV'.1 hV'.2.1 h3).mono ?_⟩) (fun z => by omega)
  rintro r M' ⟨rfl, σ4, rfl, h4, hs4⟩
  simp only [fi_const, fi_iload, fi_aload, fi_istore, fi_astore, fi_iinc, fi_bin, fi_div, fi_un, fi_dup, fi_dup2, fi_pop, fi_if, fi_cmp, fi_getf, fi_putf, fi_putr, fi_ald, fi_ast, fi_alen, fi_iret, fi_zret, fi_vret, fi_cut, fi_no, fi_s0, fi_s1, fi_s2, fi_s3, fi_s4, fi_v0, fi_v1, fi_v2, fi_v3, fi_v4, fi_v5, fi_n0, fi_n1, fi_n2, fi_mm, fi_stat, fi_alds, fi_tsw, List.getElem?_cons_zero, List.getElem?_cons_succ, List.set_cons_zero, List.set_cons_succ, List.length_cons, List.length_nil, Option.toList_some, Option.toList_none, List.cons_append, List.nil_append, Value.category, true_and, k_0, k_1, k_2, k_3, k_4, false_implies, true_implies, reduceCtorEq, hX.1]
  refine ⟨by decide, ⟨_, hD.1⟩, (c_totalCost hD hP hT.2.2.2.2.1 h4.1.2.1 (h4.loc hV'.1 hV'.2.1)).mono ?_⟩
  rintro r M' ⟨rfl, rfl⟩
  simp only [fi_const, fi_iload, fi_aload, fi_istore, fi_astore, fi_iinc, fi_bin, fi_div, fi_un, fi_dup, fi_dup2, fi_pop, fi_if, fi_cmp, fi_getf, fi_putf, fi_putr, fi_ald, fi_ast, fi_alen, fi_iret, fi_zret, fi_vret, fi_cut, fi_no, fi_s0, fi_s1, fi_s2, fi_s3, fi_s4, fi_v0, fi_v1, fi_v2, fi_v3, fi_v4, fi_v5, fi_n0, fi_n1, fi_n2, fi_mm, fi_stat, fi_alds, fi_tsw, List.getElem?_cons_zero, List.getElem?_cons_succ, List.set_cons_zero, List.set_cons_succ, List.length_cons, List.length_nil, Option.toList_some, Option.toList_none, List.cons_append, List.nil_append, Value.category, true_and, k_0, k_1, k_2, k_3, k_4, false_implies, true_implies, reduceCtorEq]
  refine ⟨congrArg _ (congrArg _ ?_), σ4, rfl, h4, fun c hc => ?_⟩
  · exact h4.co hV'.1 hV'.2.1
  · rw [hs4 c hc, hs3 c (by omega), hs2 c (by omega), hs1 c hc]
theorem k_ex_5 (hX : shX S) (hT : okT V nL nA nS) (hN : okN V nS (V 4)) {a b : Nat} (ha : a < 12) (hb : b < 12) (hr : exR V nS a b = false) : askC g S fr τ V nL nA nS kp nb m_X8_exchange [.ref 0, .int (nI a), .int (nI b)] (-5) := by
  intro σ h
  have hD2 := hX.2.2.2.2.1
  refine fs_enterC (by decide) (by simp [fs_ok]) (Nat.le_of_ble_eq_true rfl) (fun d => S_X8_exchange_0 ?_)
  show T_X8_exchange_0 g d _ [.ref 0, .int (nI a), .int (nI b), .null] [] _
  simp only [T_X8_exchange_0, fi_const, fi_iload, fi_aload, fi_istore, fi_astore, fi_iinc, fi_bin, fi_div, fi_un, fi_dup, fi_dup2, fi_pop, fi_if, fi_cmp, fi_getf, fi_putf, fi_putr, fi_ald, fi_ast, fi_alen, fi_iret, fi_zret, fi_vret, fi_cut, fi_no, fi_s0, fi_s1, fi_s2, fi_s3, fi_s4, fi_v0, fi_v1, fi_v2, fi_v3, fi_v4, fi_v5, fi_n0, fi_n1, fi_n2, fi_mm, fi_stat, fi_alds, fi_tsw, List.getElem?_cons_zero, List.getElem?_cons_succ, List.set_cons_zero, List.set_cons_succ, List.length_cons, List.length_nil, Option.toList_some, Option.toList_none, List.cons_append, List.nil_append, Value.category, true_and, k_0, k_1, k_2, k_3, k_4, false_implies, true_implies, reduceCtorEq]
  simp only [fi_const, fi_iload, fi_aload, fi_istore, fi_astore, fi_iinc, fi_bin, fi_div, fi_un, fi_dup, fi_dup2, fi_pop, fi_if, fi_cmp, fi_getf, fi_putf, fi_putr, fi_ald, fi_ast, fi_alen, fi_iret, fi_zret, fi_vret, fi_cut, fi_no, fi_s0, fi_s1, fi_s2, fi_s3, fi_s4, fi_v0, fi_v1, fi_v2, fi_v3, fi_v4, fi_v5, fi_n0, fi_n1, fi_n2, fi_mm, fi_stat, fi_alds, fi_tsw, List.getElem?_cons_zero, List.getElem?_cons_succ, List.set_cons_zero, List.set_cons_succ, List.length_cons, List.length_nil, Option.toList_some, Option.toList_none, List.cons_append, List.nil_append, Value.category, true_and, k_0, k_1, k_2, k_3, k_4, false_implies, true_implies, reduceCtorEq, hX.1]
  refine ⟨fun z => absurd z (nI_pos (by omega)), fun _ => pk_le 12 a (fun z => by omega) (fun _ => ⟨fun z => absurd z (nI_pos (by omega)), fun _ => pk_lt b 12 (fun _ => ⟨by decide, ⟨_, hD2.1⟩, (v_exch hX hT hN h ha hb).mono ?_⟩) (fun z => by omega)⟩)⟩
  rintro r M' ⟨rfl, σ1, rfl, h1, hs1, hbr⟩
  simp only [fi_const, fi_iload, fi_aload, fi_istore, fi_astore, fi_iinc, fi_bin, fi_div, fi_un, fi_dup, fi_dup2, fi_pop, fi_if, fi_cmp, fi_getf, fi_putf, fi_putr, fi_ald, fi_ast, fi_alen, fi_iret, fi_zret, fi_vret, fi_cut, fi_no, fi_s0, fi_s1, fi_s2, fi_s3, fi_s4, fi_v0, fi_v1, fi_v2, fi_v3, fi_v4, fi_v5, fi_n0, fi_n1, fi_n2, fi_mm, fi_stat, fi_alds, fi_tsw, List.getElem?_cons_zero, List.getElem?_cons_succ, List.set_cons_zero, List.set_cons_succ, List.length_cons, List.length_nil, Option.toList_some, Option.toList_none, List.cons_append, List.nil_append, Value.category, true_and, k_0, k_1, k_2, k_3, k_4, false_implies, true_implies, reduceCtorEq, hX.1]
  refine ⟨by decide, ⟨_, hD2.1⟩, (c_breaks hD2).mono ?_⟩
  rintro r M' ⟨rfl, rfl⟩
  rw [show 20 + 3 = 23 from rfl, show 20 + 5 = 25 from rfl, hbr, hr]
  simp only [fi_const, fi_iload, fi_aload, fi_istore, fi_astore, fi_iinc, fi_bin, fi_div, fi_un, fi_dup, fi_dup2, fi_pop, fi_if, fi_cmp, fi_getf, fi_putf, fi_putr, fi_ald, fi_ast, fi_alen, fi_iret, fi_zret, fi_vret, fi_cut, fi_no, fi_s0, fi_s1, fi_s2, fi_s3, fi_s4, fi_v0, fi_v1, fi_v2, fi_v3, fi_v4, fi_v5, fi_n0, fi_n1, fi_n2, fi_mm, fi_stat, fi_alds, fi_tsw, List.getElem?_cons_zero, List.getElem?_cons_succ, List.set_cons_zero, List.set_cons_succ, List.length_cons, List.length_nil, Option.toList_some, Option.toList_none, List.cons_append, List.nil_append, Value.category, true_and, k_0, k_1, k_2, k_3, k_4, false_implies, true_implies, reduceCtorEq, hX.1, bI_eq0, Bool.not_false, not_false_eq_true]
  exact ⟨σ1, rfl, h1, hs1⟩
theorem k_ex_2 (hX : shX S) {x y : Int32} (hx : ¬ (inI x 12 ∧ inI y 12)) : askC g S fr τ V nL nA nS kp nb m_X8_exchange [.ref 0, .int x, .int y] (-2) := by
  intro σ h
  refine fs_enterC (by decide) (by simp [fs_ok]) (Nat.le_of_ble_eq_true rfl) (fun d => S_X8_exchange_0 ?_)
  show T_X8_exchange_0 g d _ [.ref 0, .int x, .int y, .null] [] _
  simp only [T_X8_exchange_0, fi_const, fi_iload, fi_aload, fi_istore, fi_astore, fi_iinc, fi_bin, fi_div, fi_un, fi_dup, fi_dup2, fi_pop, fi_if, fi_cmp, fi_getf, fi_putf, fi_putr, fi_ald, fi_ast, fi_alen, fi_iret, fi_zret, fi_vret, fi_cut, fi_no, fi_s0, fi_s1, fi_s2, fi_s3, fi_s4, fi_v0, fi_v1, fi_v2, fi_v3, fi_v4, fi_v5, fi_n0, fi_n1, fi_n2, fi_mm, fi_stat, fi_alds, fi_tsw, List.getElem?_cons_zero, List.getElem?_cons_succ, List.set_cons_zero, List.set_cons_succ, List.length_cons, List.length_nil, Option.toList_some, Option.toList_none, List.cons_append, List.nil_append, Value.category, true_and, k_0, k_1, k_2, k_3, k_4, false_implies, true_implies, reduceCtorEq]
  simp only [fi_const, fi_iload, fi_aload, fi_istore, fi_astore, fi_iinc, fi_bin, fi_div, fi_un, fi_dup, fi_dup2, fi_pop, fi_if, fi_cmp, fi_getf, fi_putf, fi_putr, fi_ald, fi_ast, fi_alen, fi_iret, fi_zret, fi_vret, fi_cut, fi_no, fi_s0, fi_s1, fi_s2, fi_s3, fi_s4, fi_v0, fi_v1, fi_v2, fi_v3, fi_v4, fi_v5, fi_n0, fi_n1, fi_n2, fi_mm, fi_stat, fi_alds, fi_tsw, List.getElem?_cons_zero, List.getElem?_cons_succ, List.set_cons_zero, List.set_cons_succ, List.length_cons, List.length_nil, Option.toList_some, Option.toList_none, List.cons_append, List.nil_append, Value.category, true_and, k_0, k_1, k_2, k_3, k_4, false_implies, true_implies, reduceCtorEq, hX.1]
  refine ⟨fun _ => ⟨σ, rfl, h, fun _ _ => rfl⟩, fun q1 => ⟨fun _ => ⟨σ, rfl, h, fun _ _ => rfl⟩, fun q2 => ⟨fun _ => ⟨σ, rfl, h, fun _ _ => rfl⟩, fun q3 => ⟨fun q4 => absurd ⟨⟨q1, q2⟩, q3, fun w => ((nlt_iff y 12).mpr w) q4⟩ hx, fun _ => ⟨σ, rfl, h, fun _ _ => rfl⟩⟩⟩⟩⟩
end PD4
