/-! ===== changes of the class: put, take ===== -/
def nwN (N : Nat → Int32) (k : Nat) (x : Int32) : Nat → Int32 := fun j => if j = 4 + k then x else N j
theorem fr_nw (N : Nat → Int32) (k : Nat) (x : Int32) : fr_ (nwN N k x) 4 = dyA (fr_ N 4) k x := by
  funext j
  simp only [fr_, nwN, dyA]
  by_cases h : j = k
  · rw [if_pos h, if_pos (by omega)]
  · rw [if_neg h, if_neg (by omega)]
theorem keR_congr {P P' N N' : Nat → Int32} {kp : Nat} (hk : kp ≤ 12) (hP : ∀ b, b < 18 * kp → P b = P' b) (hN : ∀ i, i < 18 → N i = N' i) : ∀ b, b < 18 * (k0 kp + 1) → keR P N kp b = keR P' N' kp b := by
  intro b hb
  have h0 : k0 kp = if 12 ≤ kp then 11 else kp := rfl
  unfold keR p0
  by_cases q : b < 18 * k0 kp
  · rw [if_pos q, if_pos q]
    by_cases q2 : 12 ≤ kp
    · rw [if_pos q2] at h0
      rw [if_pos q2, if_pos q2]
      exact hP _ (by omega)
    · rw [if_neg q2] at h0
      rw [if_neg q2, if_neg q2]
      exact hP _ (by omega)
  · rw [if_neg q, if_neg q]
    exact hN _ (by omega)
section PC3
variable {g : fs_G} {d : Nat} {S : List fs_Sh} {fr : Bool} {σ : Nat → Nat → Int32} {τ : Nat → Nat → Int64} {V : Vt} {nL nA nS kp nb : Nat}
theorem IC0_ch {σ1 σ2 : Nat → Nat → Int32} {N : Nat → Int32} (h : IC σ V nL nA nS kp nb) (hk : kp ≤ 12) (hs : same σ σ1 (fun a => a = 46 ∨ a = 47)) (s1 : σ1 46 0 = nI (k0 kp + 1)) (s2 : ∀ b, b < 18 * (k0 kp + 1) → σ1 47 b = keR (σ 47) (fun i => if i < 4 then σ 13 i else σ 12 (i - 4)) kp b) (hr : ∀ a, a < 56 → a ≠ 12 → a ≠ 13 → σ2 a = σ1 a) (hd : ∀ k, k < 14 → σ2 12 k = N (4 + k)) (hi : ∀ i, i < 4 → σ2 13 i = N i) : IC0 σ2 (chV V kp N) nL nA nS (k0 kp + 1) nb := by
  obtain ⟨h1, h2, h3, h4, h5, h6, h7, h8, h9, h10, h11, h12, h13⟩ := h
  have c : ∀ a, a < 12 → σ2 a = σ a := fun a ha => (hr a (by omega) (by omega) (by omega)).trans (hs a (by omega))
  unfold IC0
  simp only [v_lo, v_le, v_ni, v_ca, v_dy, chV_2, chV_1, chV_4, chV_7]
  refine ⟨by rw [c 2 (by omega)]; exact h1, by rw [c 3 (by omega), c 4 (by omega), c 5 (by omega)]; exact h2, by rw [c 6 (by omega), c 7 (by omega)]; exact h3, by rw [c 8 (by omega), c 9 (by omega), c 10 (by omega), c 11 (by omega)]; exact h4, hd, hi, by rw [hr 46 (by omega) (by omega) (by omega)]; exact s1, fun b hb => ?_, by rw [c 0 (by omega)]; exact h10, by rw [c 1 (by omega)]; exact h11, by rw [c 0 (by omega)]; simpa [chV] using h12⟩
  rw [hr 47 (by omega) (by omega) (by omega), s2 b hb]
  refine keR_congr hk h9 (fun i hi => ?_) b hb
  by_cases q : i < 4
  · rw [if_pos q]; exact h6 i q
  · rw [if_neg q, h5 (i - 4) (by omega)]
    show V 4 (4 + (i - 4)) = V 4 i
    exact congrArg _ (by omega)
theorem okN_days (hN : okN V nS (V 4)) {k : Nat} {x : Int32} (hx : x = -1 ∨ (k < nS ∧ ∃ e, e < 12 ∧ x = nI e)) (hc : cons (dyA (v_dy V) k x) (v_lo V) (v_ni V) nS) (hr : rested (dyA (v_dy V) k x) (v_ni V) (v_ca V) nS) : okN V nS (nwN (V 4) k x) := by
  obtain ⟨h1, h2, h3, h4, h5, h6, h7⟩ := hN
  have c : ∀ j, j < 4 → nwN (V 4) k x j = V 4 j := fun j hj => by unfold nwN; rw [if_neg (by omega)]
  unfold okN
  rw [fr_nw, c 0 (by decide), c 1 (by decide), c 2 (by decide), c 3 (by decide)]
  refine ⟨h1, h2, h3, h4, fun j hj => ?_, hc, hr⟩
  unfold nwN
  by_cases q : j = k
  · rw [if_pos (by omega), q]; exact hx
  · rw [if_neg (by omega)]; exact h5 j hj
theorem okN_put (hT : okT V nL nA nS) (hN : okN V nS (V 4)) {k e : Nat} (hk : k < nS) (he : e < 12) (h0 : reV V nS k e = 0) : okN V nS (nwN (V 4) k (nI e)) := by
  have hn := hT.2.2.2.2.2.1
  have h01 : b01 (v_ni V) nS := hT.2.2.2.2.2.2.2.1
  obtain ⟨-, -, -, -, -, hc, hr⟩ := id hN
  refine okN_days hN (Or.inr ⟨hk, e, he, rfl⟩) ?_ ?_
  · refine cons.move (le := v_le V) (ca := v_ca V) (cap := V 4 0) hn he hc ?_
    rw [re_rm hn hk he h01 hc hr]
    exact h0
  · refine (rested_iff h01).mp ?_
    unfold reV rmF at h0
    revert h0
    split
    · intro z; exact absurd z (by decide)
    split
    · intro z; exact absurd z (by decide)
    split
    · intro z; exact absurd z (by decide)
    split
    · intro _; assumption
    · intro z; exact absurd z (by decide)
theorem okN_take (hN : okN V nS (V 4)) {k : Nat} : okN V nS (nwN (V 4) k (-1)) :=
  okN_days hN (Or.inl rfl) hN.2.2.2.2.2.1.off (rested.off hN.2.2.2.2.2.1 hN.2.2.2.2.2.2)
theorem coV_nw (V : Vt) (nA nS kp k : Nat) (x : Int32) : coV (chV V kp (nwN (V 4) k x)) nA nS (v_dy (chV V kp (nwN (V 4) k x))) = coV V nA nS (dyA (v_dy V) k x) := by
  have c : ∀ j, j < 4 → nwN (V 4) k x j = V 4 j := fun j hj => by unfold nwN; rw [if_neg (by omega)]
  unfold coV
  simp only [v_lo, v_ca, v_dy, chV_2, chV_4, fr_nw, c 1 (by decide), c 2 (by decide), c 3 (by decide)]
theorem k_put (hX : shX S) (hS : shS S) (hV : okV V nL nA nS kp nb) {k e : Nat} (hk : k < nS) (he : e < 12) (h0 : reV V nS k e = 0) : chgC g S fr τ V nL nA nS kp nb m_X8_put [.ref 0, .int (nI k), .int (nI e)] (cwW V nA nS k e) (chV V kp (nwN (V 4) k (nI e))) (k0 kp + 1) := by
  intro σ h
  obtain ⟨hT, hN, h9, hkp, -⟩ := id hV
  have hn := hT.2.2.2.2.2.1
  have hP := hX.2.2.1
  have hD := hX.2.2.2.1
  have hD2 := hX.2.2.2.2.1
  have hH := hX.2.2.2.2.2.1
  have hi : vp_in (nI k) 14 := vp_in_nI (by omega) (by decide)
  have hN' := okN_put hT hN hk he h0
  have hV' := okV_ch hV hN'
  refine fs_enterC (by decide) (by simp [fs_ok]) (Nat.le_of_ble_eq_true rfl) (fun d => S_X8_put_0 ?_)
  show T_X8_put_0 g d _ [.ref 0, .int (nI k), .int (nI e)] [] _
  simp only [T_X8_put_0, fi_const, fi_iload, fi_aload, fi_istore, fi_astore, fi_iinc, fi_bin, fi_div, fi_un, fi_dup, fi_dup2, fi_pop, fi_if, fi_cmp, fi_getf, fi_putf, fi_putr, fi_ald, fi_ast, fi_alen, fi_iret, fi_zret, fi_vret, fi_cut, fi_no, fi_s0, fi_s1, fi_s2, fi_s3, fi_s4, fi_v0, fi_v1, fi_v2, fi_v3, fi_v4, fi_v5, fi_n0, fi_n1, fi_n2, fi_mm, fi_stat, fi_alds, fi_tsw, List.getElem?_cons_zero, List.getElem?_cons_succ, List.set_cons_zero, List.set_cons_succ, List.length_cons, List.length_nil, Option.toList_some, Option.toList_none, List.cons_append, List.nil_append, Value.category, true_and, k_0, k_1, k_2, k_3, k_4, false_implies, true_implies, reduceCtorEq]
  simp only [fi_const, fi_iload, fi_aload, fi_istore, fi_astore, fi_iinc, fi_bin, fi_div, fi_un, fi_dup, fi_dup2, fi_pop, fi_if, fi_cmp, fi_getf, fi_putf, fi_putr, fi_ald, fi_ast, fi_alen, fi_iret, fi_zret, fi_vret, fi_cut, fi_no, fi_s0, fi_s1, fi_s2, fi_s3, fi_s4, fi_v0, fi_v1, fi_v2, fi_v3, fi_v4, fi_v5, fi_n0, fi_n1, fi_n2, fi_mm, fi_stat, fi_alds, fi_tsw, List.getElem?_cons_zero, List.getElem?_cons_succ, List.set_cons_zero, List.set_cons_succ, List.length_cons, List.length_nil, Option.toList_some, Option.toList_none, List.cons_append, List.nil_append, Value.category, true_and, k_0, k_1, k_2, k_3, k_4, false_implies, true_implies, reduceCtorEq, hX.1, hP.1, h.1.2.2]
  refine ⟨fun z => absurd z (nI_pos (by omega)), fun _ => pk_lt k nS (fun _ => ⟨fun z => absurd z (nI_pos (by omega)), fun _ => pk_lt e 12 (fun _ => ⟨by decide, ⟨_, hD2.1⟩, (v_move hX hT hN h hk he).mono ?_⟩) (fun z => by omega)⟩) (fun z => by omega)⟩
  rintro r M' ⟨rfl, σ1, rfl, h1, hs1, -⟩
  simp only [fi_const, fi_iload, fi_aload, fi_istore, fi_astore, fi_iinc, fi_bin, fi_div, fi_un, fi_dup, fi_dup2, fi_pop, fi_if, fi_cmp, fi_getf, fi_putf, fi_putr, fi_ald, fi_ast, fi_alen, fi_iret, fi_zret, fi_vret, fi_cut, fi_no, fi_s0, fi_s1, fi_s2, fi_s3, fi_s4, fi_v0, fi_v1, fi_v2, fi_v3, fi_v4, fi_v5, fi_n0, fi_n1, fi_n2, fi_mm, fi_stat, fi_alds, fi_tsw, List.getElem?_cons_zero, List.getElem?_cons_succ, List.set_cons_zero, List.set_cons_succ, List.length_cons, List.length_nil, Option.toList_some, Option.toList_none, List.cons_append, List.nil_append, Value.category, true_and, k_0, k_1, k_2, k_3, k_4, false_implies, true_implies, reduceCtorEq, hX.1, h0]
  refine ⟨⟨by decide, ⟨_, hH⟩, (c_keep hX hkp h1.2.2.2.2.2.2.2.1).mono ?_⟩, fun z => absurd trivial z⟩
  rintro r M' ⟨rfl, σ2, rfl, hs2, s1, s2⟩
  simp only [fi_const, fi_iload, fi_aload, fi_istore, fi_astore, fi_iinc, fi_bin, fi_div, fi_un, fi_dup, fi_dup2, fi_pop, fi_if, fi_cmp, fi_getf, fi_putf, fi_putr, fi_ald, fi_ast, fi_alen, fi_iret, fi_zret, fi_vret, fi_cut, fi_no, fi_s0, fi_s1, fi_s2, fi_s3, fi_s4, fi_v0, fi_v1, fi_v2, fi_v3, fi_v4, fi_v5, fi_n0, fi_n1, fi_n2, fi_mm, fi_stat, fi_alds, fi_tsw, List.getElem?_cons_zero, List.getElem?_cons_succ, List.set_cons_zero, List.set_cons_succ, List.length_cons, List.length_nil, Option.toList_some, Option.toList_none, List.cons_append, List.nil_append, Value.category, true_and, k_0, k_1, k_2, k_3, k_4, false_implies, true_implies, reduceCtorEq, hX.1, hP.1, hP.2.2.2.2.2.2.2.2.2.2.1, nI_clamp (show k < 2 ^ 31 by omega), hi, show 2 + 10 = 12 from rfl]
  have h3 : IC0 (fs_u σ2 12 k (nI e)) (chV V kp (nwN (V 4) k (nI e))) nL nA nS (k0 kp + 1) nb := by
    refine IC0_ch h1 hkp hs2 s1 s2 (fun a _ h1 _ => fs_u_ne h1) (fun j hj => ?_) (fun i hi => ?_)
    · simp only [fs_u, nwN]
      by_cases q : j = k
      · rw [if_pos ⟨trivial, q⟩, if_pos (by omega)]
      · rw [if_neg (fun z => q z.2), if_neg (by omega), hs2 12 (by omega)]
        exact h1.2.2.2.2.1 j hj
    · rw [fs_u_ne (by decide), hs2 13 (by omega)]
      simp only [nwN]
      rw [if_neg (by omega)]
      exact h1.set hi
  refine ⟨by decide, ⟨_, rfl⟩, (c_refresh hX hS hV'.1 hV'.2.1 h3).mono ?_⟩
  rintro r M' ⟨rfl, σ4, rfl, h4, hs4⟩
  simp only [fi_const, fi_iload, fi_aload, fi_istore, fi_astore, fi_iinc, fi_bin, fi_div, fi_un, fi_dup, fi_dup2, fi_pop, fi_if, fi_cmp, fi_getf, fi_putf, fi_putr, fi_ald, fi_ast, fi_alen, fi_iret, fi_zret, fi_vret, fi_cut, fi_no, fi_s0, fi_s1, fi_s2, fi_s3, fi_s4, fi_v0, fi_v1, fi_v2, fi_v3, fi_v4, fi_v5, fi_n0, fi_n1, fi_n2, fi_mm, fi_stat, fi_alds, fi_tsw, List.getElem?_cons_zero, List.getElem?_cons_succ, List.set_cons_zero, List.set_cons_succ, List.length_cons, List.length_nil, Option.toList_some, Option.toList_none, List.cons_append, List.nil_append, Value.category, true_and, k_0, k_1, k_2, k_3, k_4, false_implies, true_implies, reduceCtorEq, hX.1]
  refine ⟨by decide, ⟨_, hD.1⟩, (c_totalCost hD hP hT.2.2.2.2.1 h4.1.2.1 (h4.loc hV'.1 hV'.2.1)).mono ?_⟩
  rintro r M' ⟨rfl, rfl⟩
  simp only [fi_const, fi_iload, fi_aload, fi_istore, fi_astore, fi_iinc, fi_bin, fi_div, fi_un, fi_dup, fi_dup2, fi_pop, fi_if, fi_cmp, fi_getf, fi_putf, fi_putr, fi_ald, fi_ast, fi_alen, fi_iret, fi_zret, fi_vret, fi_cut, fi_no, fi_s0, fi_s1, fi_s2, fi_s3, fi_s4, fi_v0, fi_v1, fi_v2, fi_v3, fi_v4, fi_v5, fi_n0, fi_n1, fi_n2, fi_mm, fi_stat, fi_alds, fi_tsw, List.getElem?_cons_zero, List.getElem?_cons_succ, List.set_cons_zero, List.set_cons_succ, List.length_cons, List.length_nil, Option.toList_some, Option.toList_none, List.cons_append, List.nil_append, Value.category, true_and, k_0, k_1, k_2, k_3, k_4, false_implies, true_implies, reduceCtorEq]
  refine ⟨congrArg _ (congrArg _ ?_), σ4, rfl, h4, fun a ha => ?_⟩
  · exact (h4.co hV'.1 hV'.2.1).trans (coV_nw V nA nS kp k (nI e))
  · rw [hs4 a ha, fs_u_ne (by omega), hs2 a (by omega), hs1 a ha]
theorem k_put_5 (hX : shX S) (hT : okT V nL nA nS) (hN : okN V nS (V 4)) {k e : Nat} (hk : k < nS) (he : e < 12) (h0 : ¬ reV V nS k e = 0) : askC g S fr τ V nL nA nS kp nb m_X8_put [.ref 0, .int (nI k), .int (nI e)] (-5) := by
  intro σ h
  have hn := hT.2.2.2.2.2.1
  have hP := hX.2.2.1
  have hD2 := hX.2.2.2.2.1
  refine fs_enterC (by decide) (by simp [fs_ok]) (Nat.le_of_ble_eq_true rfl) (fun d => S_X8_put_0 ?_)
  show T_X8_put_0 g d _ [.ref 0, .int (nI k), .int (nI e)] [] _
  simp only [T_X8_put_0, fi_const, fi_iload, fi_aload, fi_istore, fi_astore, fi_iinc, fi_bin, fi_div, fi_un, fi_dup, fi_dup2, fi_pop, fi_if, fi_cmp, fi_getf, fi_putf, fi_putr, fi_ald, fi_ast, fi_alen, fi_iret, fi_zret, fi_vret, fi_cut, fi_no, fi_s0, fi_s1, fi_s2, fi_s3, fi_s4, fi_v0, fi_v1, fi_v2, fi_v3, fi_v4, fi_v5, fi_n0, fi_n1, fi_n2, fi_mm, fi_stat, fi_alds, fi_tsw, List.getElem?_cons_zero, List.getElem?_cons_succ, List.set_cons_zero, List.set_cons_succ, List.length_cons, List.length_nil, Option.toList_some, Option.toList_none, List.cons_append, List.nil_append, Value.category, true_and, k_0, k_1, k_2, k_3, k_4, false_implies, true_implies, reduceCtorEq]
  simp only [fi_const, fi_iload, fi_aload, fi_istore, fi_astore, fi_iinc, fi_bin, fi_div, fi_un, fi_dup, fi_dup2, fi_pop, fi_if, fi_cmp, fi_getf, fi_putf, fi_putr, fi_ald, fi_ast, fi_alen, fi_iret, fi_zret, fi_vret, fi_cut, fi_no, fi_s0, fi_s1, fi_s2, fi_s3, fi_s4, fi_v0, fi_v1, fi_v2, fi_v3, fi_v4, fi_v5, fi_n0, fi_n1, fi_n2, fi_mm, fi_stat, fi_alds, fi_tsw, List.getElem?_cons_zero, List.getElem?_cons_succ, List.set_cons_zero, List.set_cons_succ, List.length_cons, List.length_nil, Option.toList_some, Option.toList_none, List.cons_append, List.nil_append, Value.category, true_and, k_0, k_1, k_2, k_3, k_4, false_implies, true_implies, reduceCtorEq, hX.1, hP.1, h.1.2.2]
  refine ⟨fun z => absurd z (nI_pos (by omega)), fun _ => pk_lt k nS (fun _ => ⟨fun z => absurd z (nI_pos (by omega)), fun _ => pk_lt e 12 (fun _ => ⟨by decide, ⟨_, hD2.1⟩, (v_move hX hT hN h hk he).mono ?_⟩) (fun z => by omega)⟩) (fun z => by omega)⟩
  rintro r M' ⟨rfl, σ1, rfl, h1, hs1, -⟩
  simp only [fi_const, fi_iload, fi_aload, fi_istore, fi_astore, fi_iinc, fi_bin, fi_div, fi_un, fi_dup, fi_dup2, fi_pop, fi_if, fi_cmp, fi_getf, fi_putf, fi_putr, fi_ald, fi_ast, fi_alen, fi_iret, fi_zret, fi_vret, fi_cut, fi_no, fi_s0, fi_s1, fi_s2, fi_s3, fi_s4, fi_v0, fi_v1, fi_v2, fi_v3, fi_v4, fi_v5, fi_n0, fi_n1, fi_n2, fi_mm, fi_stat, fi_alds, fi_tsw, List.getElem?_cons_zero, List.getElem?_cons_succ, List.set_cons_zero, List.set_cons_succ, List.length_cons, List.length_nil, Option.toList_some, Option.toList_none, List.cons_append, List.nil_append, Value.category, true_and, k_0, k_1, k_2, k_3, k_4, false_implies, true_implies, reduceCtorEq, hX.1]
  refine ⟨fun z => absurd z h0, fun _ => ⟨σ1, rfl, h1, hs1⟩⟩
theorem nlt_iff (x : Int32) (n : Nat) : ¬ x < nI n ↔ nI n ≤ x := by
  rw [Int32.lt_iff_toInt_lt, Int32.le_iff_toInt_le]; omega
theorem k_put_1 (hX : shX S) {x y : Int32} (hx : ¬ inI x nS) : askC g S fr τ V nL nA nS kp nb m_X8_put [.ref 0, .int x, .int y] (-1) := by
  intro σ h
  have hP := hX.2.2.1
  refine fs_enterC (by decide) (by simp [fs_ok]) (Nat.le_of_ble_eq_true rfl) (fun d => S_X8_put_0 ?_)
  show T_X8_put_0 g d _ [.ref 0, .int x, .int y] [] _
  simp only [T_X8_put_0, fi_const, fi_iload, fi_aload, fi_istore, fi_astore, fi_iinc, fi_bin, fi_div, fi_un, fi_dup, fi_dup2, fi_pop, fi_if, fi_cmp, fi_getf, fi_putf, fi_putr, fi_ald, fi_ast, fi_alen, fi_iret, fi_zret, fi_vret, fi_cut, fi_no, fi_s0, fi_s1, fi_s2, fi_s3, fi_s4, fi_v0, fi_v1, fi_v2, fi_v3, fi_v4, fi_v5, fi_n0, fi_n1, fi_n2, fi_mm, fi_stat, fi_alds, fi_tsw, List.getElem?_cons_zero, List.getElem?_cons_succ, List.set_cons_zero, List.set_cons_succ, List.length_cons, List.length_nil, Option.toList_some, Option.toList_none, List.cons_append, List.nil_append, Value.category, true_and, k_0, k_1, k_2, k_3, k_4, false_implies, true_implies, reduceCtorEq]
  simp only [fi_const, fi_iload, fi_aload, fi_istore, fi_astore, fi_iinc, fi_bin, fi_div, fi_un, fi_dup, fi_dup2, fi_pop, fi_if, fi_cmp, fi_getf, fi_putf, fi_putr, fi_ald, fi_ast, fi_alen, fi_iret, fi_zret, fi_vret, fi_cut, fi_no, fi_s0, fi_s1, fi_s2, fi_s3, fi_s4, fi_v0, fi_v1, fi_v2, fi_v3, fi_v4, fi_v5, fi_n0, fi_n1, fi_n2, fi_mm, fi_stat, fi_alds, fi_tsw, List.getElem?_cons_zero, List.getElem?_cons_succ, List.set_cons_zero, List.set_cons_succ, List.length_cons, List.length_nil, Option.toList_some, Option.toList_none, List.cons_append, List.nil_append, Value.category, true_and, k_0, k_1, k_2, k_3, k_4, false_implies, true_implies, reduceCtorEq, hX.1, hP.1, h.1.2.2]
  refine ⟨fun z => ⟨σ, rfl, h, fun _ _ => rfl⟩, fun z => ⟨fun z2 => absurd ⟨z, fun w => ((nlt_iff x nS).mpr w) z2⟩ hx, fun z2 => ⟨σ, rfl, h, fun _ _ => rfl⟩⟩⟩
theorem k_put_2 (hX : shX S) {x y : Int32} (hx : inI x nS) (hy : ¬ inI y 12) : askC g S fr τ V nL nA nS kp nb m_X8_put [.ref 0, .int x, .int y] (-2) := by
  intro σ h
  have hP := hX.2.2.1
  have hD2 := hX.2.2.2.2.1
  refine fs_enterC (by decide) (by simp [fs_ok]) (Nat.le_of_ble_eq_true rfl) (fun d => S_X8_put_0 ?_)
  show T_X8_put_0 g d _ [.ref 0, .int x, .int y] [] _
  simp only [T_X8_put_0, fi_const, fi_iload, fi_aload, fi_istore, fi_astore, fi_iinc, fi_bin, fi_div, fi_un, fi_dup, fi_dup2, fi_pop, fi_if, fi_cmp, fi_getf, fi_putf, fi_putr, fi_ald, fi_ast, fi_alen, fi_iret, fi_zret, fi_vret, fi_cut, fi_no, fi_s0, fi_s1, fi_s2, fi_s3, fi_s4, fi_v0, fi_v1, fi_v2, fi_v3, fi_v4, fi_v5, fi_n0, fi_n1, fi_n2, fi_mm, fi_stat, fi_alds, fi_tsw, List.getElem?_cons_zero, List.getElem?_cons_succ, List.set_cons_zero, List.set_cons_succ, List.length_cons, List.length_nil, Option.toList_some, Option.toList_none, List.cons_append, List.nil_append, Value.category, true_and, k_0, k_1, k_2, k_3, k_4, false_implies, true_implies, reduceCtorEq]
  simp only [fi_const, fi_iload, fi_aload, fi_istore, fi_astore, fi_iinc, fi_bin, fi_div, fi_un, fi_dup, fi_dup2, fi_pop, fi_if, fi_cmp, fi_getf, fi_putf, fi_putr, fi_ald, fi_ast, fi_alen, fi_iret, fi_zret, fi_vret, fi_cut, fi_no, fi_s0, fi_s1, fi_s2, fi_s3, fi_s4, fi_v0, fi_v1, fi_v2, fi_v3, fi_v4, fi_v5, fi_n0, fi_n1, fi_n2, fi_mm, fi_stat, fi_alds, fi_tsw, List.getElem?_cons_zero, List.getElem?_cons_succ, List.set_cons_zero, List.set_cons_succ, List.length_cons, List.length_nil, Option.toList_some, Option.toList_none, List.cons_append, List.nil_append, Value.category, true_and, k_0, k_1, k_2, k_3, k_4, false_implies, true_implies, reduceCtorEq, hX.1, hP.1, h.1.2.2]
  refine ⟨fun z => absurd z hx.1, fun z => ⟨fun z2 => ⟨fun _ => ⟨σ, rfl, h, fun _ _ => rfl⟩, fun z3 => ⟨fun z4 => absurd ⟨z3, fun w => ((nlt_iff y 12).mpr w) z4⟩ hy, fun _ => ⟨σ, rfl, h, fun _ _ => rfl⟩⟩⟩, fun z2 => absurd ((nlt_iff x nS).mp z2) hx.2⟩⟩
theorem k_take (hX : shX S) (hS : shS S) (hV : okV V nL nA nS kp nb) {k : Nat} (hk : k < nS) (h0 : ¬ v_dy V k = -1) : chgC g S fr τ V nL nA nS kp nb m_X8_take [.ref 0, .int (nI k)] (coV V nA nS (dyA (v_dy V) k (-1))) (chV V kp (nwN (V 4) k (-1))) (k0 kp + 1) := by
  intro σ h1
  obtain ⟨hT, hN, h9, hkp, -⟩ := id hV
  have hn := hT.2.2.2.2.2.1
  have hP := hX.2.2.1
  have hD := hX.2.2.2.1
  have hH := hX.2.2.2.2.2.1
  have hi : vp_in (nI k) 14 := vp_in_nI (by omega) (by decide)
  have hN' : okN V nS (nwN (V 4) k (-1)) := okN_take hN
  have hV' := okV_ch hV hN'
  refine fs_enterC (by decide) (by simp [fs_ok]) (Nat.le_of_ble_eq_true rfl) (fun d => S_X8_take_0 ?_)
  show T_X8_take_0 g d _ [.ref 0, .int (nI k)] [] _
  simp only [T_X8_take_0, fi_const, fi_iload, fi_aload, fi_istore, fi_astore, fi_iinc, fi_bin, fi_div, fi_un, fi_dup, fi_dup2, fi_pop, fi_if, fi_cmp, fi_getf, fi_putf, fi_putr, fi_ald, fi_ast, fi_alen, fi_iret, fi_zret, fi_vret, fi_cut, fi_no, fi_s0, fi_s1, fi_s2, fi_s3, fi_s4, fi_v0, fi_v1, fi_v2, fi_v3, fi_v4, fi_v5, fi_n0, fi_n1, fi_n2, fi_mm, fi_stat, fi_alds, fi_tsw, List.getElem?_cons_zero, List.getElem?_cons_succ, List.set_cons_zero, List.set_cons_succ, List.length_cons, List.length_nil, Option.toList_some, Option.toList_none, List.cons_append, List.nil_append, Value.category, true_and, k_0, k_1, k_2, k_3, k_4, false_implies, true_implies, reduceCtorEq]
  simp only [fi_const, fi_iload, fi_aload, fi_istore, fi_astore, fi_iinc, fi_bin, fi_div, fi_un, fi_dup, fi_dup2, fi_pop, fi_if, fi_cmp, fi_getf, fi_putf, fi_putr, fi_ald, fi_ast, fi_alen, fi_iret, fi_zret, fi_vret, fi_cut, fi_no, fi_s0, fi_s1, fi_s2, fi_s3, fi_s4, fi_v0, fi_v1, fi_v2, fi_v3, fi_v4, fi_v5, fi_n0, fi_n1, fi_n2, fi_mm, fi_stat, fi_alds, fi_tsw, List.getElem?_cons_zero, List.getElem?_cons_succ, List.set_cons_zero, List.set_cons_succ, List.length_cons, List.length_nil, Option.toList_some, Option.toList_none, List.cons_append, List.nil_append, Value.category, true_and, k_0, k_1, k_2, k_3, k_4, false_implies, true_implies, reduceCtorEq, hX.1, hP.1, h1.1.2.2, hP.2.2.2.2.2.2.2.2.2.2.1, nI_clamp (show k < 2 ^ 31 by omega), hi, show 2 + 10 = 12 from rfl, h1.2.2.2.2.1 k (by omega)]
  refine ⟨fun z => absurd z (nI_pos (by omega)), fun _ => pk_le nS k (fun z => by omega) (fun _ => ⟨fun z => absurd z h0, fun _ => ⟨by decide, ⟨_, hH⟩, (c_keep hX hkp h1.2.2.2.2.2.2.2.1).mono ?_⟩⟩)⟩
  rintro r M' ⟨rfl, σ2, rfl, hs2, s1, s2⟩
  simp only [fi_const, fi_iload, fi_aload, fi_istore, fi_astore, fi_iinc, fi_bin, fi_div, fi_un, fi_dup, fi_dup2, fi_pop, fi_if, fi_cmp, fi_getf, fi_putf, fi_putr, fi_ald, fi_ast, fi_alen, fi_iret, fi_zret, fi_vret, fi_cut, fi_no, fi_s0, fi_s1, fi_s2, fi_s3, fi_s4, fi_v0, fi_v1, fi_v2, fi_v3, fi_v4, fi_v5, fi_n0, fi_n1, fi_n2, fi_mm, fi_stat, fi_alds, fi_tsw, List.getElem?_cons_zero, List.getElem?_cons_succ, List.set_cons_zero, List.set_cons_succ, List.length_cons, List.length_nil, Option.toList_some, Option.toList_none, List.cons_append, List.nil_append, Value.category, true_and, k_0, k_1, k_2, k_3, k_4, false_implies, true_implies, reduceCtorEq, hX.1, hP.1, hP.2.2.2.2.2.2.2.2.2.2.1, nI_clamp (show k < 2 ^ 31 by omega), hi, show 2 + 10 = 12 from rfl]
  have h3 : IC0 (fs_u σ2 12 k (-1)) (chV V kp (nwN (V 4) k (-1))) nL nA nS (k0 kp + 1) nb := by
    refine IC0_ch h1 hkp hs2 s1 s2 (fun a _ h1 _ => fs_u_ne h1) (fun j hj => ?_) (fun i hi => ?_)
    · simp only [fs_u, nwN]
      by_cases q : j = k
      · rw [if_pos ⟨trivial, q⟩, if_pos (by omega)]
      · rw [if_neg (fun z => q z.2), if_neg (by omega), hs2 12 (by omega)]
        exact h1.2.2.2.2.1 j hj
    · rw [fs_u_ne (by decide), hs2 13 (by omega)]
      simp only [nwN]
      rw [if_neg (by omega)]
      exact h1.set hi
  refine ⟨by decide, ⟨_, rfl⟩, (c_refresh hX hS hV'.1 hV'.2.1 h3).mono ?_⟩
  rintro r M' ⟨rfl, σ4, rfl, h4, hs4⟩
  simp only [fi_const, fi_iload, fi_aload, fi_istore, fi_astore, fi_iinc, fi_bin, fi_div, fi_un, fi_dup, fi_dup2, fi_pop, fi_if, fi_cmp, fi_getf, fi_putf, fi_putr, fi_ald, fi_ast, fi_alen, fi_iret, fi_zret, fi_vret, fi_cut, fi_no, fi_s0, fi_s1, fi_s2, fi_s3, fi_s4, fi_v0, fi_v1, fi_v2, fi_v3, fi_v4, fi_v5, fi_n0, fi_n1, fi_n2, fi_mm, fi_stat, fi_alds, fi_tsw, List.getElem?_cons_zero, List.getElem?_cons_succ, List.set_cons_zero, List.set_cons_succ, List.length_cons, List.length_nil, Option.toList_some, Option.toList_none, List.cons_append, List.nil_append, Value.category, true_and, k_0, k_1, k_2, k_3, k_4, false_implies, true_implies, reduceCtorEq, hX.1]
  refine ⟨by decide, ⟨_, hD.1⟩, (c_totalCost hD hP hT.2.2.2.2.1 h4.1.2.1 (h4.loc hV'.1 hV'.2.1)).mono ?_⟩
  rintro r M' ⟨rfl, rfl⟩
  simp only [fi_const, fi_iload, fi_aload, fi_istore, fi_astore, fi_iinc, fi_bin, fi_div, fi_un, fi_dup, fi_dup2, fi_pop, fi_if, fi_cmp, fi_getf, fi_putf, fi_putr, fi_ald, fi_ast, fi_alen, fi_iret, fi_zret, fi_vret, fi_cut, fi_no, fi_s0, fi_s1, fi_s2, fi_s3, fi_s4, fi_v0, fi_v1, fi_v2, fi_v3, fi_v4, fi_v5, fi_n0, fi_n1, fi_n2, fi_mm, fi_stat, fi_alds, fi_tsw, List.getElem?_cons_zero, List.getElem?_cons_succ, List.set_cons_zero, List.set_cons_succ, List.length_cons, List.length_nil, Option.toList_some, Option.toList_none, List.cons_append, List.nil_append, Value.category, true_and, k_0, k_1, k_2, k_3, k_4, false_implies, true_implies, reduceCtorEq]
  refine ⟨congrArg _ (congrArg _ ?_), σ4, rfl, h4, fun a ha => ?_⟩
  · exact (h4.co hV'.1 hV'.2.1).trans (coV_nw V nA nS kp k (-1))
  · rw [hs4 a ha, fs_u_ne (by omega), hs2 a (by omega)]
theorem k_take_1 (hX : shX S) (hT : okT V nL nA nS) {x : Int32} (hx : ¬ (inI x nS ∧ ¬ v_dy V x.toNatClampNeg = -1)) : askC g S fr τ V nL nA nS kp nb m_X8_take [.ref 0, .int x] (-1) := by
  intro σ h
  have hn := hT.2.2.2.2.2.1
  have hP := hX.2.2.1
  refine fs_enterC (by decide) (by simp [fs_ok]) (Nat.le_of_ble_eq_true rfl) (fun d => S_X8_take_0 ?_)
  show T_X8_take_0 g d _ [.ref 0, .int x] [] _
  simp only [T_X8_take_0, fi_const, fi_iload, fi_aload, fi_istore, fi_astore, fi_iinc, fi_bin, fi_div, fi_un, fi_dup, fi_dup2, fi_pop, fi_if, fi_cmp, fi_getf, fi_putf, fi_putr, fi_ald, fi_ast, fi_alen, fi_iret, fi_zret, fi_vret, fi_cut, fi_no, fi_s0, fi_s1, fi_s2, fi_s3, fi_s4, fi_v0, fi_v1, fi_v2, fi_v3, fi_v4, fi_v5, fi_n0, fi_n1, fi_n2, fi_mm, fi_stat, fi_alds, fi_tsw, List.getElem?_cons_zero, List.getElem?_cons_succ, List.set_cons_zero, List.set_cons_succ, List.length_cons, List.length_nil, Option.toList_some, Option.toList_none, List.cons_append, List.nil_append, Value.category, true_and, k_0, k_1, k_2, k_3, k_4, false_implies, true_implies, reduceCtorEq]
  simp only [fi_const, fi_iload, fi_aload, fi_istore, fi_astore, fi_iinc, fi_bin, fi_div, fi_un, fi_dup, fi_dup2, fi_pop, fi_if, fi_cmp, fi_getf, fi_putf, fi_putr, fi_ald, fi_ast, fi_alen, fi_iret, fi_zret, fi_vret, fi_cut, fi_no, fi_s0, fi_s1, fi_s2, fi_s3, fi_s4, fi_v0, fi_v1, fi_v2, fi_v3, fi_v4, fi_v5, fi_n0, fi_n1, fi_n2, fi_mm, fi_stat, fi_alds, fi_tsw, List.getElem?_cons_zero, List.getElem?_cons_succ, List.set_cons_zero, List.set_cons_succ, List.length_cons, List.length_nil, Option.toList_some, Option.toList_none, List.cons_append, List.nil_append, Value.category, true_and, k_0, k_1, k_2, k_3, k_4, false_implies, true_implies, reduceCtorEq, hX.1, hP.1, h.1.2.2, hP.2.2.2.2.2.2.2.2.2.2.1, show 2 + 10 = 12 from rfl]
  refine ⟨fun z => ⟨σ, rfl, h, fun _ _ => rfl⟩, fun z => ⟨fun z2 => ⟨σ, rfl, h, fun _ _ => rfl⟩, fun z2 => ?_⟩⟩
  obtain ⟨k, hk, rfl⟩ := inI_nat ⟨z, z2⟩ (by omega)
  rw [nI_clamp (by omega)] at hx ⊢
  have h5 : σ 12 k = v_dy V k := h.2.2.2.2.1 k (by omega)
  rw [h5]
  refine ⟨vp_in_nI (by omega) (by decide), fun _ => ⟨σ, rfl, h, fun _ _ => rfl⟩, fun q => absurd ⟨⟨z, z2⟩, q⟩ hx⟩
end PC3
