/-! ===== the search of the class: extend, tryDay ===== -/
section PS3
variable {g : fs_G} {d : Nat} {S : List fs_Sh} {fr : Bool} {σ σ0 : Nat → Nat → Int32} {τ : Nat → Nat → Int64} {V : Vt} {nL nA nS kp nb : Nat}
/-- what extend does, with r days left -/
def exT (g : fs_G) (S : List fs_Sh) (fr : Bool) (τ : Nat → Nat → Int64) (σ0 : Nat → Nat → Int32) (V : Vt) (nA nS r : Nat) : Prop := ∀ p a pr s us σ d, p + r = nDV V nS → 2 * r + 2 ≤ d → PR V nS pr p a r → (∀ j, j < 32 → bt us j = inS pr p j) → DI σ0 σ V nA nS pr p → stS σ V nA nS s → fs_T g m_X3_extend d [.ref 50, .int (nI p), .int us, .int (nI (cwP V nA nS pr p))] ((S, fr), σ, τ) (fun x M' => x = none ∧ ∃ σ', M' = ((S, fr), σ', τ) ∧ DI σ0 σ' V nA nS pr p ∧ stS σ' V nA nS (sfd (gdV V nS) (ccV V nA nS) (nDV V nS ^ r) (a * nDV V nS ^ r) s))
theorem stS.keep {σ' : Nat → Nat → Int32} {s : Option Nat} (h : stS σ V nA nS s) (h5 : σ' 50 5 = σ 50 5) (h1 : σ' 51 = σ 51) : stS σ' V nA nS s := by
  unfold stS at h ⊢
  rw [h5, h1]
  exact h
theorem c_tryDay78 (hX : shX S) (hS : shS S) (hT : okT V nL nA nS) (hN : okN V nS (V 4)) (h7 : nDV V nS ≤ 7) (h0 : IC σ0 V nL nA nS kp nb) {r : Nat} (ih : exT g S fr τ σ0 V nA nS r) {p a j : Nat} {pr : Nat → Nat} {s : Option Nat} {us : Int32} {z : Value} (hp : p + (r + 1) = nDV V nS) (hd : 2 * r + 3 ≤ d) (hP : PR V nS (prX pr p j) (p + 1) (a * nDV V nS + j) r) (hj : j < nDV V nS) (hu : ∀ i, i < 32 → bt us i = inS pr p i) (h : DI σ0 σ V nA nS pr p) (hs : stS σ V nA nS s) :
    fs_R g m_X3_tryDay d (0, 0) 78 [.ref 50, .int (nI j), .int (nI p), .int us, .int (nI (cwP V nA nS pr p)), .int (nI (owV V nS j)), .int (nI (cwP V nA nS (prX pr p j) (p + 1))), z] [] ((S, fr), σ, τ) (fun x M' => x = none ∧ ∃ σ', M' = ((S, fr), σ', τ) ∧ DI σ0 σ' V nA nS pr p ∧ stS σ' V nA nS (sfd (gdV V nS) (ccV V nA nS) (nDV V nS ^ r) ((a * nDV V nS + j) * nDV V nS ^ r) s)) := by
  have ip : vp_in (nI p) 7 := vp_in_nI (by omega) (by decide)
  have c : ∀ x, nI x + 1 = nI (x + 1) := nI_1
  obtain ⟨d1, d2, d3, d4, d5, d6, d7⟩ := id h
  refine S_X3_tryDay_78 ?_
  simp only [T_X3_tryDay_78, fi_const, fi_iload, fi_aload, fi_istore, fi_astore, fi_iinc, fi_bin, fi_div, fi_un, fi_dup, fi_dup2, fi_pop, fi_if, fi_cmp, fi_getf, fi_putf, fi_putr, fi_ald, fi_ast, fi_alen, fi_iret, fi_zret, fi_vret, fi_cut, fi_no, fi_s0, fi_s1, fi_s2, fi_s3, fi_s4, fi_v0, fi_v1, fi_v2, fi_v3, fi_v4, fi_v5, fi_n0, fi_n1, fi_n2, fi_mm, fi_stat, fi_alds, fi_tsw, List.getElem?_cons_zero, List.getElem?_cons_succ, List.set_cons_zero, List.set_cons_succ, List.length_cons, List.length_nil, Option.toList_some, Option.toList_none, List.cons_append, List.nil_append, Value.category, true_and, k_0, k_1, k_2, k_3, k_4, false_implies, true_implies, reduceCtorEq, hS.1, hS.2.2.2.1, ip, nI_clamp (show p < 2 ^ 31 by omega), nI_1]
  have s1 : same σ0 (fs_u σ 53 p (nI (owV V nS j))) (fun a => 50 ≤ a ∧ a ≤ 55) := same_uu d1 (by omega)
  refine ⟨by decide, ⟨_, rfl⟩, (c_flip hX hS hT h0 hj (show p < 7 by omega) s1).mono ?_⟩
  rintro x M' ⟨rfl, σ1, rfl, f1, f2⟩
  simp only [fi_const, fi_iload, fi_aload, fi_istore, fi_astore, fi_iinc, fi_bin, fi_div, fi_un, fi_dup, fi_dup2, fi_pop, fi_if, fi_cmp, fi_getf, fi_putf, fi_putr, fi_ald, fi_ast, fi_alen, fi_iret, fi_zret, fi_vret, fi_cut, fi_no, fi_s0, fi_s1, fi_s2, fi_s3, fi_s4, fi_v0, fi_v1, fi_v2, fi_v3, fi_v4, fi_v5, fi_n0, fi_n1, fi_n2, fi_mm, fi_stat, fi_alds, fi_tsw, List.getElem?_cons_zero, List.getElem?_cons_succ, List.set_cons_zero, List.set_cons_succ, List.length_cons, List.length_nil, Option.toList_some, Option.toList_none, List.cons_append, List.nil_append, Value.category, true_and, k_0, k_1, k_2, k_3, k_4, false_implies, true_implies, reduceCtorEq, hS.1, nI_1, fi_r3]
  have g1 : ∀ b, b ≠ 53 → b ≠ 54 → σ1 b = σ b := fun b h1 h2 => by rw [f1 b h2, fs_u_ne h1]
  have hD1 : DI σ0 σ1 V nA nS (prX pr p j) (p + 1) := by
    refine ⟨fun b hb => by rw [g1 b (by omega) (by omega)]; exact d1 b hb, by rw [g1 50 (by decide) (by decide)]; exact d2, by rw [g1 50 (by decide) (by decide)]; exact d3, by rw [g1 52 (by decide) (by decide)]; exact d4, fun i hi => ?_, fun b hb => ?_, by rw [g1 55 (by decide) (by decide)]; exact d7⟩
    · rw [f1 53 (by decide)]
      by_cases q : i = p
      · rw [q, u_eq, prX_at]
      · rw [prX_lt (by omega)]
        simp only [fs_u]
        rw [if_neg (fun z => q z.2)]
        exact d5 i (by omega)
    · rw [f2 b hb, fs_u_ne (by decide), d6 b hb]
      exact wk_x (by omega)
  have hs1 : stS σ1 V nA nS s := hs.keep (by rw [g1 50 (by decide) (by decide)]) (g1 51 (by decide) (by decide))
  have hu1 : ∀ i, i < 32 → bt (us ||| 1 <<< (nI j &&& 31)) i = inS (prX pr p j) (p + 1) i := by
    intro i hi
    rw [bt_or1 (by omega) hi, hu i hi]
    simp only [inS]
    rw [prX_at, inS_congr p i (fun k hk => prX_lt (j := j) hk)]
    congr 1
    exact decide_eq_decide.mpr eq_comm
  refine ⟨by decide, ⟨_, rfl⟩, by omega, (ih (p + 1) (a * nDV V nS + j) (prX pr p j) s _ σ1 (d - 1) (by omega) (by omega) hP hu1 hD1 hs1).mono ?_⟩
  rintro x M' ⟨rfl, σ2, rfl, hD2, hs2⟩
  simp only [fi_const, fi_iload, fi_aload, fi_istore, fi_astore, fi_iinc, fi_bin, fi_div, fi_un, fi_dup, fi_dup2, fi_pop, fi_if, fi_cmp, fi_getf, fi_putf, fi_putr, fi_ald, fi_ast, fi_alen, fi_iret, fi_zret, fi_vret, fi_cut, fi_no, fi_s0, fi_s1, fi_s2, fi_s3, fi_s4, fi_v0, fi_v1, fi_v2, fi_v3, fi_v4, fi_v5, fi_n0, fi_n1, fi_n2, fi_mm, fi_stat, fi_alds, fi_tsw, List.getElem?_cons_zero, List.getElem?_cons_succ, List.set_cons_zero, List.set_cons_succ, List.length_cons, List.length_nil, Option.toList_some, Option.toList_none, List.cons_append, List.nil_append, Value.category, true_and, k_0, k_1, k_2, k_3, k_4, false_implies, true_implies, reduceCtorEq, hS.1]
  refine ⟨by decide, ⟨_, rfl⟩, (c_flip hX hS hT h0 hj (show p < 7 by omega) hD2.1).mono ?_⟩
  rintro x M' ⟨rfl, σ3, rfl, f3, f4⟩
  simp only [fi_const, fi_iload, fi_aload, fi_istore, fi_astore, fi_iinc, fi_bin, fi_div, fi_un, fi_dup, fi_dup2, fi_pop, fi_if, fi_cmp, fi_getf, fi_putf, fi_putr, fi_ald, fi_ast, fi_alen, fi_iret, fi_zret, fi_vret, fi_cut, fi_no, fi_s0, fi_s1, fi_s2, fi_s3, fi_s4, fi_v0, fi_v1, fi_v2, fi_v3, fi_v4, fi_v5, fi_n0, fi_n1, fi_n2, fi_mm, fi_stat, fi_alds, fi_tsw, List.getElem?_cons_zero, List.getElem?_cons_succ, List.set_cons_zero, List.set_cons_succ, List.length_cons, List.length_nil, Option.toList_some, Option.toList_none, List.cons_append, List.nil_append, Value.category, true_and, k_0, k_1, k_2, k_3, k_4, false_implies, true_implies, reduceCtorEq]
  obtain ⟨b1, b2, b3, b4, b5, b6, b7⟩ := hD2
  refine ⟨σ3, rfl, ⟨fun b hb => by rw [f3 b (by omega)]; exact b1 b hb, by rw [f3 50 (by decide)]; exact b2, by rw [f3 50 (by decide)]; exact b3, by rw [f3 52 (by decide)]; exact b4, fun i hi => ?_, fun b hb => ?_, by rw [f3 55 (by decide)]; exact b7⟩, hs2.keep (by rw [f3 50 (by decide)]) (f3 51 (by decide))⟩
  · rw [f3 53 (by decide), b5 i (by omega), prX_lt hi]
  · rw [f4 b hb, b6 b hb]
    exact wk_x2 (by omega)
theorem c_tryDay (hX : shX S) (hS : shS S) (hT : okT V nL nA nS) (hN : okN V nS (V 4)) (h7 : nDV V nS ≤ 7) (h0 : IC σ0 V nL nA nS kp nb) {r : Nat} (ih : exT g S fr τ σ0 V nA nS r) {p a j : Nat} {pr : Nat → Nat} {s : Option Nat} {us : Int32} (hp : p + (r + 1) = nDV V nS) (hd : 2 * r + 3 ≤ d) (hP : PR V nS pr p a (r + 1)) (hj : j < nDV V nS) (hun : inS pr p j = false) (hu : ∀ i, i < 32 → bt us i = inS pr p i) (h : DI σ0 σ V nA nS pr p) (hs : stS σ V nA nS s) :
    fs_T g m_X3_tryDay d [.ref 50, .int (nI j), .int (nI p), .int us, .int (nI (cwP V nA nS pr p))] ((S, fr), σ, τ) (fun x M' => x = none ∧ ∃ σ', M' = ((S, fr), σ', τ) ∧ DI σ0 σ' V nA nS pr p ∧ stS σ' V nA nS (sfd (gdV V nS) (ccV V nA nS) (nDV V nS ^ r) ((a * nDV V nS + j) * nDV V nS ^ r) s)) := by
  have hPr := hX.2.2.1
  have hD := hX.2.2.2.1
  have hn := hT.2.2.2.2.2.1
  have ij : vp_in (nI j) 7 := vp_in_nI (by omega) (by decide)
  obtain ⟨d1, d2, d3, d4, d5, d6, d7⟩ := id h
  have e52 := d4 j hj
  have hoj := (ow_lt hj).1
  refine fs_enter (by decide) (by simp [fs_ok]) (Nat.le_of_ble_eq_true rfl) (show 2 ≤ d by omega) (S_X3_tryDay_0 ?_)
  show T_X3_tryDay_0 g d _ [.ref 50, .int (nI j), .int (nI p), .int us, .int (nI (cwP V nA nS pr p)), .null, .null, .null] [] _
  simp only [T_X3_tryDay_0, fi_const, fi_iload, fi_aload, fi_istore, fi_astore, fi_iinc, fi_bin, fi_div, fi_un, fi_dup, fi_dup2, fi_pop, fi_if, fi_cmp, fi_getf, fi_putf, fi_putr, fi_ald, fi_ast, fi_alen, fi_iret, fi_zret, fi_vret, fi_cut, fi_no, fi_s0, fi_s1, fi_s2, fi_s3, fi_s4, fi_v0, fi_v1, fi_v2, fi_v3, fi_v4, fi_v5, fi_n0, fi_n1, fi_n2, fi_mm, fi_stat, fi_alds, fi_tsw, List.getElem?_cons_zero, List.getElem?_cons_succ, List.set_cons_zero, List.set_cons_succ, List.length_cons, List.length_nil, Option.toList_some, Option.toList_none, List.cons_append, List.nil_append, Value.category, true_and, k_0, k_1, k_2, k_3, k_4, false_implies, true_implies, reduceCtorEq, hS.1, hS.2.2.1, ij, nI_clamp (show j < 2 ^ 31 by omega), e52]
  refine ⟨fun q => ?_, fun q => ?_⟩
  · have p0 : p = 0 := Decidable.byContradiction fun w => nI_nle (by omega) (by omega) q
    have hN1 := hP.next hp hj hun (fun w => by omega)
    have e : cwP V nA nS pr p = cwP V nA nS (prX pr p j) (p + 1) := by rw [cw_x, if_pos (Or.inl p0)]; omega
    have := c_tryDay78 (d := d) (z := .null) hX hS hT hN h7 h0 ih hp hd hN1 hj hu h hs
    rw [← e] at this
    exact this
  · have p0 : 0 < p := Nat.pos_of_ne_zero fun w => q (by rw [w]; decide)
    obtain ⟨p', rfl⟩ : ∃ p', p = p' + 1 := ⟨p - 1, by omega⟩
    have hb : pr p' < nDV V nS := hP.1 p' (by omega)
    have hob := (ow_lt hb).1
    have ip : vp_in (nI p') 7 := vp_in_nI (by omega) (by decide)
    have e53 := d5 p' (by omega)
    have t : ∀ e, e < 12 → σ 16 e = plF (v_dy V) (v_lo V) nS e ∧ σ 17 e = pnF (v_dy V) (v_ni V) nS e ∧ σ 19 e = caF (v_dy V) (v_ca V) e nS := by
      intro e he
      rw [d1 16 (by omega), d1 17 (by omega), d1 19 (by omega)]
      have := h0.tb hn e he
      exact ⟨this.2.1, this.2.2.1, this.2.2.2.2⟩
    simp only [nI_pred, hS.2.2.2.1, fi_const, fi_iload, fi_aload, fi_istore, fi_astore, fi_iinc, fi_bin, fi_div, fi_un, fi_dup, fi_dup2, fi_pop, fi_if, fi_cmp, fi_getf, fi_putf, fi_putr, fi_ald, fi_ast, fi_alen, fi_iret, fi_zret, fi_vret, fi_cut, fi_no, fi_s0, fi_s1, fi_s2, fi_s3, fi_s4, fi_v0, fi_v1, fi_v2, fi_v3, fi_v4, fi_v5, fi_n0, fi_n1, fi_n2, fi_mm, fi_stat, fi_alds, fi_tsw, List.getElem?_cons_zero, List.getElem?_cons_succ, List.set_cons_zero, List.set_cons_succ, List.length_cons, List.length_nil, Option.toList_some, Option.toList_none, List.cons_append, List.nil_append, Value.category, true_and, k_0, k_1, k_2, k_3, k_4, false_implies, true_implies, reduceCtorEq, ip, nI_clamp (show p' < 2 ^ 31 by omega), e53, hS.1]
    refine ⟨by decide, ⟨_, hD.1⟩, (c_clash (t := 14) hD hob hoj).mono ?_⟩
    rintro x M' ⟨rfl, rfl⟩
    have ec : clF (σ (14 + 3)) (σ (14 + 5)) (owV V nS (pr p')) (owV V nS j) = clF (fun e => pnF (v_dy V) (v_ni V) nS e) (fun e => caF (v_dy V) (v_ca V) e nS) (owV V nS (pr p')) (owV V nS j) := by
      unfold clF
      rw [show 14 + 3 = 17 from rfl, show 14 + 5 = 19 from rfl, (t _ hob).2.1, (t _ hoj).2.1, (t _ hob).2.2, (t _ hoj).2.2]
    rw [ec]
    have e16 : σ 16 (owV V nS (pr p')) = plO V nS (pr p') := (t _ hob).1
    have e16' : σ 16 (owV V nS j) = plO V nS j := (t _ hoj).1
    obtain ⟨em, hm, -⟩ := st_yes hN
    have e13 : σ 13 1 = nI (mvN V) := by rw [d1 13 (by omega), h0.2.2.2.2.2.1 1 (by decide)]; exact em
    simp only [fi_const, fi_iload, fi_aload, fi_istore, fi_astore, fi_iinc, fi_bin, fi_div, fi_un, fi_dup, fi_dup2, fi_pop, fi_if, fi_cmp, fi_getf, fi_putf, fi_putr, fi_ald, fi_ast, fi_alen, fi_iret, fi_zret, fi_vret, fi_cut, fi_no, fi_s0, fi_s1, fi_s2, fi_s3, fi_s4, fi_v0, fi_v1, fi_v2, fi_v3, fi_v4, fi_v5, fi_n0, fi_n1, fi_n2, fi_mm, fi_stat, fi_alds, fi_tsw, List.getElem?_cons_zero, List.getElem?_cons_succ, List.set_cons_zero, List.set_cons_succ, List.length_cons, List.length_nil, Option.toList_some, Option.toList_none, List.cons_append, List.nil_append, Value.category, true_and, k_0, k_1, k_2, k_3, k_4, false_implies, true_implies, reduceCtorEq, bI_eq0, hS.1, hD.1, hD.2.2.1, vp_in_nI hob (show 12 < 2 ^ 31 by decide), vp_in_nI hoj (show 12 < 2 ^ 31 by decide), nI_clamp (show owV V nS (pr p') < 2 ^ 31 by omega), nI_clamp (show owV V nS j < 2 ^ 31 by omega), show 14 + 2 = 16 from rfl, e16, e16', hPr.1, hPr.2.2.2.2.2.2.2.2.2.2.2, show 2 + 11 = 13 from rfl, e13, nI_add]
    refine ⟨fun w => ?_, fun w => ?_⟩
    · have hnc : ¬ clO V nS (pr p') j := fun z => by rw [(cl_iff hT).mpr z] at w; exact absurd w (by decide)
      have hN1 := hP.next hp hj hun (fun _ => by rw [show p' + 1 - 1 = p' by omega]; exact hnc)
      refine ⟨fun v => ?_, fun v => ⟨vp_in_nI (n := 1) (by decide) (by decide), ?_⟩⟩
      · have e : cwP V nA nS pr (p' + 1) = cwP V nA nS (prX pr (p' + 1) j) (p' + 1 + 1) := by rw [cw_x, if_pos (Or.inr (by rw [show p' + 1 - 1 = p' by omega]; exact v))]; omega
        have := c_tryDay78 (d := d) (z := .int (nI (owV V nS (pr p')))) hX hS hT hN h7 h0 ih hp hd hN1 hj hu h hs
        rw [← e] at this
        exact this
      · have e : cwP V nA nS pr (p' + 1) + mvN V = cwP V nA nS (prX pr (p' + 1) j) (p' + 1 + 1) := by rw [cw_x, if_neg (fun z => by rcases z with z | z; omega; rw [show p' + 1 - 1 = p' by omega] at z; exact v z)]; omega
        have := c_tryDay78 (d := d) (z := .int (nI (owV V nS (pr p')))) hX hS hT hN h7 h0 ih hp hd hN1 hj hu h hs
        rw [← e] at this
        exact this
    · have hc : clO V nS (pr p') j := by
        refine (cl_iff hT).mp ?_
        cases v : clF (fun e => pnF (v_dy V) (v_ni V) nS e) (fun e => caF (v_dy V) (v_ca V) e nS) (owV V nS (pr p')) (owV V nS j)
        · exact absurd v w
        · rfl
      refine ⟨σ, rfl, h, ?_⟩
      rw [sfd_skip]
      · exact hs
      · intro x x1 x2
        have x2' : x < (a * nDV V nS + j + 1) * nDV V nS ^ r := by rw [Nat.add_mul _ 1, Nat.one_mul]; exact x2
        obtain ⟨y1, y2⟩ := blk_sub hj x1 x2'
        refine stp_bad (gd_cl (i := p') hT hN h7 (by omega) ?_)
        rw [hP.2.2.2 x y1 y2 p' (by omega), rwN_at hp hj x1 x2']
        exact hc
end PS3
