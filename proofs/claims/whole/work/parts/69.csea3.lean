/-! ===== the search of the class: extend ===== -/
section PS4
variable {g : fs_G} {d : Nat} {S : List fs_Sh} {fr : Bool} {σ σ0 : Nat → Nat → Int32} {τ : Nat → Nat → Int64} {V : Vt} {nL nA nS kp nb : Nat}
theorem cc_le (hT : okT V nL nA nS) (hN : okN V nS (V 4)) (x : Nat) : ccV V nA nS x ≤ 1679844 := by
  obtain ⟨c, hc, e⟩ := coV_le hT hN (fr_ (stR V nS (rwN (nDV V nS) x)) 4)
  unfold ccV
  rw [e, nI_clamp (by omega)]
  exact hc
theorem nI_m1 {x : Nat} (h : x < 2 ^ 31) : ¬ nI x = -1 := fun q => by
  have := nI_pos h
  rw [q] at this
  exact this (by decide)
theorem l_extend61 (hX : shX S) (hS : shS S) (hT : okT V nL nA nS) (hN : okN V nS (V 4)) (h7 : nDV V nS ≤ 7) (h0 : IC σ0 V nL nA nS kp nb) {r : Nat} (ih : exT g S fr τ σ0 V nA nS r) {p a : Nat} {pr : Nat → Nat} {us : Int32} {z : Value} (hp : p + (r + 1) = nDV V nS) (hd : 2 * r + 4 ≤ d) (hP : PR V nS pr p a (r + 1)) (hu : ∀ i, i < 32 → bt us i = inS pr p i) : ∀ m j s σ, j + m = nDV V nS → DI σ0 σ V nA nS pr p → stS σ V nA nS s →
    fs_R g m_X3_extend d (0, 0) 61 [.ref 50, .int (nI p), .int us, .int (nI (cwP V nA nS pr p)), z, .int (nI j)] [] ((S, fr), σ, τ) (fun x M' => x = none ∧ ∃ σ', M' = ((S, fr), σ', τ) ∧ DI σ0 σ' V nA nS pr p ∧ stS σ' V nA nS (sfd (gdV V nS) (ccV V nA nS) (m * nDV V nS ^ r) ((a * nDV V nS + j) * nDV V nS ^ r) s))
  | 0, j, s, σ, hj, h, hs => by
    have e0 := h.2.1
    refine S_X3_extend_61 ?_
    simp only [T_X3_extend_61, fi_const, fi_iload, fi_aload, fi_istore, fi_astore, fi_iinc, fi_bin, fi_div, fi_un, fi_dup, fi_dup2, fi_pop, fi_if, fi_cmp, fi_getf, fi_putf, fi_putr, fi_ald, fi_ast, fi_alen, fi_iret, fi_zret, fi_vret, fi_cut, fi_no, fi_s0, fi_s1, fi_s2, fi_s3, fi_s4, fi_v0, fi_v1, fi_v2, fi_v3, fi_v4, fi_v5, fi_n0, fi_n1, fi_n2, fi_mm, fi_stat, fi_alds, fi_tsw, List.getElem?_cons_zero, List.getElem?_cons_succ, List.set_cons_zero, List.set_cons_succ, List.length_cons, List.length_nil, Option.toList_some, Option.toList_none, List.cons_append, List.nil_append, Value.category, true_and, k_0, k_1, k_2, k_3, k_4, false_implies, true_implies, reduceCtorEq, hS.1, e0]
    refine pk_le (nDV V nS) j (fun _ => ?_) (fun z => by omega)
    exact ⟨σ, rfl, h, by rw [Nat.zero_mul]; exact hs⟩
  | m + 1, j, s, σ, hj, h, hs => by
    have e0 := h.2.1
    have hjn : j < nDV V nS := by omega
    have esf : sfd (gdV V nS) (ccV V nA nS) ((m + 1) * nDV V nS ^ r) ((a * nDV V nS + j) * nDV V nS ^ r) s = sfd (gdV V nS) (ccV V nA nS) (m * nDV V nS ^ r) ((a * nDV V nS + (j + 1)) * nDV V nS ^ r) (sfd (gdV V nS) (ccV V nA nS) (nDV V nS ^ r) ((a * nDV V nS + j) * nDV V nS ^ r) s) := by
      rw [show (m + 1) * nDV V nS ^ r = nDV V nS ^ r + m * nDV V nS ^ r by rw [Nat.add_mul]; omega, sfd_add, show (a * nDV V nS + j) * nDV V nS ^ r + nDV V nS ^ r = (a * nDV V nS + (j + 1)) * nDV V nS ^ r by rw [← Nat.add_assoc, Nat.add_mul _ 1, Nat.one_mul]]
    rw [esf]
    refine S_X3_extend_61 ?_
    simp only [T_X3_extend_61, fi_const, fi_iload, fi_aload, fi_istore, fi_astore, fi_iinc, fi_bin, fi_div, fi_un, fi_dup, fi_dup2, fi_pop, fi_if, fi_cmp, fi_getf, fi_putf, fi_putr, fi_ald, fi_ast, fi_alen, fi_iret, fi_zret, fi_vret, fi_cut, fi_no, fi_s0, fi_s1, fi_s2, fi_s3, fi_s4, fi_v0, fi_v1, fi_v2, fi_v3, fi_v4, fi_v5, fi_n0, fi_n1, fi_n2, fi_mm, fi_stat, fi_alds, fi_tsw, List.getElem?_cons_zero, List.getElem?_cons_succ, List.set_cons_zero, List.set_cons_succ, List.length_cons, List.length_nil, Option.toList_some, Option.toList_none, List.cons_append, List.nil_append, Value.category, true_and, k_0, k_1, k_2, k_3, k_4, false_implies, true_implies, reduceCtorEq, hS.1, e0]
    refine pk_le (nDV V nS) j (fun z => by omega) (fun _ => ⟨by decide, (c_has us (show j < 32 by omega)).mono ?_⟩)
    rintro x M' ⟨rfl, rfl⟩
    simp only [fi_const, fi_iload, fi_aload, fi_istore, fi_astore, fi_iinc, fi_bin, fi_div, fi_un, fi_dup, fi_dup2, fi_pop, fi_if, fi_cmp, fi_getf, fi_putf, fi_putr, fi_ald, fi_ast, fi_alen, fi_iret, fi_zret, fi_vret, fi_cut, fi_no, fi_s0, fi_s1, fi_s2, fi_s3, fi_s4, fi_v0, fi_v1, fi_v2, fi_v3, fi_v4, fi_v5, fi_n0, fi_n1, fi_n2, fi_mm, fi_stat, fi_alds, fi_tsw, List.getElem?_cons_zero, List.getElem?_cons_succ, List.set_cons_zero, List.set_cons_succ, List.length_cons, List.length_nil, Option.toList_some, Option.toList_none, List.cons_append, List.nil_append, Value.category, true_and, k_0, k_1, k_2, k_3, k_4, false_implies, true_implies, reduceCtorEq, bI_eq0, hS.1, fi_r4, nI_1]
    rw [hu j (by omega)]
    refine ⟨fun q => ?_, fun q => ?_⟩
    · refine ⟨by decide, ⟨_, rfl⟩, by omega, (c_tryDay (d := d - 1) hX hS hT hN h7 h0 ih hp (by omega) hP hjn q hu h hs).mono ?_⟩
      rintro x M' ⟨rfl, σ1, rfl, h1, hs1⟩
      simp only [fi_const, fi_iload, fi_aload, fi_istore, fi_astore, fi_iinc, fi_bin, fi_div, fi_un, fi_dup, fi_dup2, fi_pop, fi_if, fi_cmp, fi_getf, fi_putf, fi_putr, fi_ald, fi_ast, fi_alen, fi_iret, fi_zret, fi_vret, fi_cut, fi_no, fi_s0, fi_s1, fi_s2, fi_s3, fi_s4, fi_v0, fi_v1, fi_v2, fi_v3, fi_v4, fi_v5, fi_n0, fi_n1, fi_n2, fi_mm, fi_stat, fi_alds, fi_tsw, List.getElem?_cons_zero, List.getElem?_cons_succ, List.set_cons_zero, List.set_cons_succ, List.length_cons, List.length_nil, Option.toList_some, Option.toList_none, List.cons_append, List.nil_append, Value.category, true_and, k_0, k_1, k_2, k_3, k_4, false_implies, true_implies, reduceCtorEq, nI_1]
      exact l_extend61 hX hS hT hN h7 h0 ih hp hd hP hu m (j + 1) _ σ1 (by omega) h1 hs1
    · have hq : inS pr p j = true := by cases w : inS pr p j; exact absurd w q; rfl
      have e : sfd (gdV V nS) (ccV V nA nS) (nDV V nS ^ r) ((a * nDV V nS + j) * nDV V nS ^ r) s = s := by
        refine sfd_skip _ _ (fun x x1 x2 => ?_)
        have x2' : x < (a * nDV V nS + j + 1) * nDV V nS ^ r := by rw [Nat.add_mul _ 1, Nat.one_mul]; exact x2
        obtain ⟨y1, y2⟩ := blk_sub hjn x1 x2'
        obtain ⟨i, hi, ei⟩ := (inS_iff pr p j).mp hq
        refine stp_bad (gd_rep (i := i) (p := p) (by omega) hi ?_)
        rw [hP.2.2.2 x y1 y2 i hi, rwN_at hp hjn x1 x2', ei]
      rw [e]
      exact l_extend61 hX hS hT hN h7 h0 ih hp hd hP hu m (j + 1) s σ (by omega) h hs
theorem c_extend (hX : shX S) (hS : shS S) (hT : okT V nL nA nS) (hN : okN V nS (V 4)) (h7 : nDV V nS ≤ 7) (h0 : IC σ0 V nL nA nS kp nb) : ∀ r, exT g S fr τ σ0 V nA nS r := by
  intro r
  induction r with
  | zero =>
    intro p a pr s us σ d hp hd hP hu h hs
    have bd := cp_bd (r := pr) (p := p) hT hN h7 (by omega)
    have pe : p = nDV V nS := by omega
    have hrw : ∀ i, i < p → rwN (nDV V nS) a i = pr i := fun i hi => hP.2.2.2 a (by rw [Nat.pow_zero, Nat.mul_one]; exact Nat.le_refl _) (by rw [Nat.pow_zero, Nat.mul_one]; omega) i hi
    have hpm : pmB (rwN (nDV V nS) a) (nDV V nS) = true := by
      refine pm_of_new (fun i hi => ?_)
      rw [hrw i (by omega), inS_congr i _ (fun k hk => hrw k (by omega))]
      exact ⟨hP.1 i (by omega), hP.2.1 i (by omega)⟩
    have hgd : gdV V nS a = true := by
      unfold gdV
      rw [hpm, (gd_iff hT hN h7 hpm (fun i hi => rwN_lt (by omega))).mpr]
      · rfl
      · intro i hi
        rw [hrw i (by omega), hrw (i + 1) (by omega)]
        exact hP.2.2.1 i (by omega)
    have hcc : ccV V nA nS a = cpN V nA nS pr p := by
      rw [cc_cp hT hN h7 hpm, ← pe]
      exact (cp_congr (by rw [← pe] at hrw; exact hrw)).1
    have esf : sfd (gdV V nS) (ccV V nA nS) (nDV V nS ^ 0) (a * nDV V nS ^ 0) s = stp (gdV V nS) (ccV V nA nS) s a := by
      rw [Nat.pow_zero, Nat.mul_one]; rfl
    rw [esf]
    refine fs_enter (by decide) (by simp [fs_ok]) (Nat.le_of_ble_eq_true rfl) (show 2 ≤ d by omega) (S_X3_extend_0 ?_)
    show T_X3_extend_0 g d _ [.ref 50, .int (nI p), .int us, .int (nI (cwP V nA nS pr p)), .null, .null] [] _
    simp only [T_X3_extend_0, fi_const, fi_iload, fi_aload, fi_istore, fi_astore, fi_iinc, fi_bin, fi_div, fi_un, fi_dup, fi_dup2, fi_pop, fi_if, fi_cmp, fi_getf, fi_putf, fi_putr, fi_ald, fi_ast, fi_alen, fi_iret, fi_zret, fi_vret, fi_cut, fi_no, fi_s0, fi_s1, fi_s2, fi_s3, fi_s4, fi_v0, fi_v1, fi_v2, fi_v3, fi_v4, fi_v5, fi_n0, fi_n1, fi_n2, fi_mm, fi_stat, fi_alds, fi_tsw, List.getElem?_cons_zero, List.getElem?_cons_succ, List.set_cons_zero, List.set_cons_succ, List.length_cons, List.length_nil, Option.toList_some, Option.toList_none, List.cons_append, List.nil_append, Value.category, true_and, k_0, k_1, k_2, k_3, k_4, false_implies, true_implies, reduceCtorEq, hS.1]
    refine ⟨by decide, ⟨_, rfl⟩, (c_hold hX hS hT hN h0 (show p ≤ 7 by omega) h).mono ?_⟩
    rintro x M' ⟨rfl, rfl⟩
    simp only [fi_const, fi_iload, fi_aload, fi_istore, fi_astore, fi_iinc, fi_bin, fi_div, fi_un, fi_dup, fi_dup2, fi_pop, fi_if, fi_cmp, fi_getf, fi_putf, fi_putr, fi_ald, fi_ast, fi_alen, fi_iret, fi_zret, fi_vret, fi_cut, fi_no, fi_s0, fi_s1, fi_s2, fi_s3, fi_s4, fi_v0, fi_v1, fi_v2, fi_v3, fi_v4, fi_v5, fi_n0, fi_n1, fi_n2, fi_mm, fi_stat, fi_alds, fi_tsw, List.getElem?_cons_zero, List.getElem?_cons_succ, List.set_cons_zero, List.set_cons_succ, List.length_cons, List.length_nil, Option.toList_some, Option.toList_none, List.cons_append, List.nil_append, Value.category, true_and, k_0, k_1, k_2, k_3, k_4, false_implies, true_implies, reduceCtorEq, hS.1, nI_add]
    have go : stp (gdV V nS) (ccV V nA nS) s a = some a → fs_R g m_X3_extend d (0, 0) 26 [.ref 50, .int (nI p), .int us, .int (nI (cwP V nA nS pr p)), .int (nI (cwP V nA nS pr p + hoP V nA nS pr p)), .null] [] ((S, fr), σ, τ) (fun x M' => x = none ∧ ∃ σ', M' = ((S, fr), σ', τ) ∧ DI σ0 σ' V nA nS pr p ∧ stS σ' V nA nS (stp (gdV V nS) (ccV V nA nS) s a)) := by
      intro es
      rw [es]
      obtain ⟨d1, d2, d3, d4, d5, d6, d7⟩ := id h
      have e0 : fs_u σ 50 5 (nI (cwP V nA nS pr p + hoP V nA nS pr p)) 50 0 = nI (nDV V nS) := by simp only [fs_u]; rw [if_neg (by decide)]; exact d2
      refine S_X3_extend_26 ?_
      simp only [T_X3_extend_26, fi_const, fi_iload, fi_aload, fi_istore, fi_astore, fi_iinc, fi_bin, fi_div, fi_un, fi_dup, fi_dup2, fi_pop, fi_if, fi_cmp, fi_getf, fi_putf, fi_putr, fi_ald, fi_ast, fi_alen, fi_iret, fi_zret, fi_vret, fi_cut, fi_no, fi_s0, fi_s1, fi_s2, fi_s3, fi_s4, fi_v0, fi_v1, fi_v2, fi_v3, fi_v4, fi_v5, fi_n0, fi_n1, fi_n2, fi_mm, fi_stat, fi_alds, fi_tsw, List.getElem?_cons_zero, List.getElem?_cons_succ, List.set_cons_zero, List.set_cons_succ, List.length_cons, List.length_nil, Option.toList_some, Option.toList_none, List.cons_append, List.nil_append, Value.category, true_and, k_0, k_1, k_2, k_3, k_4, false_implies, true_implies, reduceCtorEq, hS.1, d2, e0]
      refine pk_lt p (nDV V nS) (fun z => by omega) (fun _ => ?_)
      refine acp_i (n := nDV V nS) (sp := 0) (dp := 0) (a := 53) (b := 51) hS.2.2.2.1 hS.2.1 (by omega) (by omega) (by decide) (by decide) (by decide) ?_
      simp only [fi_const, fi_iload, fi_aload, fi_istore, fi_astore, fi_iinc, fi_bin, fi_div, fi_un, fi_dup, fi_dup2, fi_pop, fi_if, fi_cmp, fi_getf, fi_putf, fi_putr, fi_ald, fi_ast, fi_alen, fi_iret, fi_zret, fi_vret, fi_cut, fi_no, fi_s0, fi_s1, fi_s2, fi_s3, fi_s4, fi_v0, fi_v1, fi_v2, fi_v3, fi_v4, fi_v5, fi_n0, fi_n1, fi_n2, fi_mm, fi_stat, fi_alds, fi_tsw, List.getElem?_cons_zero, List.getElem?_cons_succ, List.set_cons_zero, List.set_cons_succ, List.length_cons, List.length_nil, Option.toList_some, Option.toList_none, List.cons_append, List.nil_append, Value.category, true_and, k_0, k_1, k_2, k_3, k_4, false_implies, true_implies, reduceCtorEq]
      have c1 : ∀ b, b ≠ 51 → b ≠ 50 → fs_cp (fs_u σ 50 5 (nI (cwP V nA nS pr p + hoP V nA nS pr p))) 51 (fs_u σ 50 5 (nI (cwP V nA nS pr p + hoP V nA nS pr p)) 53) 0 0 (nDV V nS) b = σ b := fun b h1 h2 => by rw [cp_ne h1, fs_u_ne h2]
      have c2 : fs_cp (fs_u σ 50 5 (nI (cwP V nA nS pr p + hoP V nA nS pr p))) 51 (fs_u σ 50 5 (nI (cwP V nA nS pr p + hoP V nA nS pr p)) 53) 0 0 (nDV V nS) 50 = fs_u σ 50 5 (nI (cwP V nA nS pr p + hoP V nA nS pr p)) 50 := cp_ne (by decide)
      refine ⟨_, rfl, ⟨fun b hb => ?_, ?_, ?_, ?_, ?_, ?_, ?_⟩, ?_, fun m hm i hi => ?_⟩
      · rw [c1 b (by omega) (by omega)]; exact d1 b hb
      · rw [c2]; exact e0
      · rw [c2]; simp only [fs_u]; rw [if_neg (by decide)]; exact d3
      · rw [c1 52 (by decide) (by decide)]; exact d4
      · rw [c1 53 (by decide) (by decide)]; exact d5
      · rw [c1 54 (by decide) (by decide)]; exact d6
      · rw [c1 55 (by decide) (by decide)]; exact d7
      · rw [c2, u_eq]
        show _ = nI (ccV V nA nS a)
        rw [hcc]
        rfl
      · cases hm
        rw [cp_at, pk_cpy_in (by omega) (by omega), fs_u_ne (by decide), d5 _ (by omega), hrw i (by omega)]
        rw [show 0 + (i - 0) = i by omega]
    cases s with
    | none =>
      have e5 : σ 50 5 = -1 := hs.1
      simp only [e5, not_true, false_implies, true_implies, and_true]
      exact go (by unfold stp; rw [if_pos hgd])
    | some m =>
      have e5 : σ 50 5 = nI (ccV V nA nS m) := hs.1
      rw [e5]
      refine ⟨fun q => ?_, fun _ => ⟨fun q => ?_, fun q => ?_⟩⟩
      · exact absurd q (nI_m1 (by have := cc_le (nA := nA) hT hN m; omega))
      · refine go ?_
        have := (nI_ltI (by omega) (by have := cc_le (nA := nA) hT hN m; omega)).mp q
        unfold stp
        rw [if_pos hgd]
        simp only
        rw [if_pos (by rw [hcc]; exact this)]
      · have hge : ¬ cwP V nA nS pr p + hoP V nA nS pr p < ccV V nA nS m := fun z => q ((nI_ltI (by omega) (by have := cc_le (nA := nA) hT hN m; omega)).mpr z)
        rw [stp_dear (fun _ => by rw [hcc]; unfold cpN; omega)]
        exact ⟨σ, rfl, h, hs⟩
  | succ r ih =>
    intro p a pr s us σ d hp hd hP hu h hs
    have bd := cp_bd (r := pr) (p := p) hT hN h7 (by omega)
    refine fs_enter (by decide) (by simp [fs_ok]) (Nat.le_of_ble_eq_true rfl) (show 2 ≤ d by omega) (S_X3_extend_0 ?_)
    show T_X3_extend_0 g d _ [.ref 50, .int (nI p), .int us, .int (nI (cwP V nA nS pr p)), .null, .null] [] _
    simp only [T_X3_extend_0, fi_const, fi_iload, fi_aload, fi_istore, fi_astore, fi_iinc, fi_bin, fi_div, fi_un, fi_dup, fi_dup2, fi_pop, fi_if, fi_cmp, fi_getf, fi_putf, fi_putr, fi_ald, fi_ast, fi_alen, fi_iret, fi_zret, fi_vret, fi_cut, fi_no, fi_s0, fi_s1, fi_s2, fi_s3, fi_s4, fi_v0, fi_v1, fi_v2, fi_v3, fi_v4, fi_v5, fi_n0, fi_n1, fi_n2, fi_mm, fi_stat, fi_alds, fi_tsw, List.getElem?_cons_zero, List.getElem?_cons_succ, List.set_cons_zero, List.set_cons_succ, List.length_cons, List.length_nil, Option.toList_some, Option.toList_none, List.cons_append, List.nil_append, Value.category, true_and, k_0, k_1, k_2, k_3, k_4, false_implies, true_implies, reduceCtorEq, hS.1]
    refine ⟨by decide, ⟨_, rfl⟩, (c_hold hX hS hT hN h0 (show p ≤ 7 by omega) h).mono ?_⟩
    rintro x M' ⟨rfl, rfl⟩
    simp only [fi_const, fi_iload, fi_aload, fi_istore, fi_astore, fi_iinc, fi_bin, fi_div, fi_un, fi_dup, fi_dup2, fi_pop, fi_if, fi_cmp, fi_getf, fi_putf, fi_putr, fi_ald, fi_ast, fi_alen, fi_iret, fi_zret, fi_vret, fi_cut, fi_no, fi_s0, fi_s1, fi_s2, fi_s3, fi_s4, fi_v0, fi_v1, fi_v2, fi_v3, fi_v4, fi_v5, fi_n0, fi_n1, fi_n2, fi_mm, fi_stat, fi_alds, fi_tsw, List.getElem?_cons_zero, List.getElem?_cons_succ, List.set_cons_zero, List.set_cons_succ, List.length_cons, List.length_nil, Option.toList_some, Option.toList_none, List.cons_append, List.nil_append, Value.category, true_and, k_0, k_1, k_2, k_3, k_4, false_implies, true_implies, reduceCtorEq, hS.1, nI_add]
    have go : fs_R g m_X3_extend d (0, 0) 26 [.ref 50, .int (nI p), .int us, .int (nI (cwP V nA nS pr p)), .int (nI (cwP V nA nS pr p + hoP V nA nS pr p)), .null] [] ((S, fr), σ, τ) (fun x M' => x = none ∧ ∃ σ', M' = ((S, fr), σ', τ) ∧ DI σ0 σ' V nA nS pr p ∧ stS σ' V nA nS (sfd (gdV V nS) (ccV V nA nS) (nDV V nS ^ (r + 1)) (a * nDV V nS ^ (r + 1)) s)) := by
      have d2 := h.2.1
      refine S_X3_extend_26 ?_
      simp only [T_X3_extend_26, fi_const, fi_iload, fi_aload, fi_istore, fi_astore, fi_iinc, fi_bin, fi_div, fi_un, fi_dup, fi_dup2, fi_pop, fi_if, fi_cmp, fi_getf, fi_putf, fi_putr, fi_ald, fi_ast, fi_alen, fi_iret, fi_zret, fi_vret, fi_cut, fi_no, fi_s0, fi_s1, fi_s2, fi_s3, fi_s4, fi_v0, fi_v1, fi_v2, fi_v3, fi_v4, fi_v5, fi_n0, fi_n1, fi_n2, fi_mm, fi_stat, fi_alds, fi_tsw, List.getElem?_cons_zero, List.getElem?_cons_succ, List.set_cons_zero, List.set_cons_succ, List.length_cons, List.length_nil, Option.toList_some, Option.toList_none, List.cons_append, List.nil_append, Value.category, true_and, k_0, k_1, k_2, k_3, k_4, false_implies, true_implies, reduceCtorEq, hS.1, d2]
      refine pk_lt p (nDV V nS) (fun _ => ?_) (fun z => by omega)
      have := l_extend61 (d := d) (z := .int (nI (cwP V nA nS pr p + hoP V nA nS pr p))) hX hS hT hN h7 h0 ih hp (by omega) hP hu (nDV V nS) 0 s σ (by omega) h hs
      rw [Nat.add_zero, show nDV V nS * nDV V nS ^ r = nDV V nS ^ (r + 1) by rw [Nat.pow_succ, Nat.mul_comm], show a * nDV V nS * nDV V nS ^ r = a * nDV V nS ^ (r + 1) by rw [Nat.pow_succ, Nat.mul_assoc, Nat.mul_comm (nDV V nS)]] at this
      exact this
    cases s with
    | none =>
      have e5 : σ 50 5 = -1 := hs.1
      simp only [e5, not_true, false_implies, true_implies, and_true]
      exact go
    | some m =>
      have e5 : σ 50 5 = nI (ccV V nA nS m) := hs.1
      rw [e5]
      refine ⟨fun q => go, fun _ => ⟨fun q => go, fun q => ?_⟩⟩
      have hge : ¬ cwP V nA nS pr p + hoP V nA nS pr p < ccV V nA nS m := fun z => q ((nI_ltI (by omega) (by have := cc_le (nA := nA) hT hN m; omega)).mpr z)
      rw [blk_dear hT hN h7 hp hP (by unfold cpN; omega)]
      exact ⟨σ, rfl, h, hs⟩
end PS4
