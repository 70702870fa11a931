/-! ===== the loader of the class: location, actor, scene ===== -/
section PL2
variable {g : fs_G} {d : Nat} {S : List fs_Sh} {fr : Bool} {σ : Nat → Nat → Int32} {τ : Nat → Nat → Int64} {b : Nat → Nat} {L : Nat} {Z : Zt} {k : Nat}
theorem nar_bI (q : Bool) : vp_nar .boolean (bI q) = bI q := nar_bool (bI01 q)
theorem c_addLocation {p n : Nat} (hP : shP S p) (hn : n < 4) (h0 : σ p 0 = nI n) (x y : Int32) (q : Bool) : fs_Ct g m_X4_addLocation [.ref p, .int x, .int y, .int (bI q)] ((S, fr), σ, τ) (fun r M' => r = none ∧ ((S, fr), fs_u (fs_u (fs_u (fs_u σ (p + 1) n x) (p + 2) n y) (p + 3) n (bI q)) p 0 (nI (n + 1)), τ) = M') := by
  have i4 : vp_in (nI n) 4 := vp_in_nI hn (by decide)
  have e1 : fs_u σ (p + 1) n x p 0 = nI n := by rw [fs_u_ne (by omega)]; exact h0
  have e2 : fs_u (fs_u σ (p + 1) n x) (p + 2) n y p 0 = nI n := by rw [fs_u_ne (by omega)]; exact e1
  have e3 : fs_u (fs_u (fs_u σ (p + 1) n x) (p + 2) n y) (p + 3) n (bI q) p 0 = nI n := by rw [fs_u_ne (by omega)]; exact e2
  refine fs_enterC (by decide) (by simp [fs_ok]) (Nat.le_of_ble_eq_true rfl) (fun d => S_X4_addLocation_0 ?_)
  show T_X4_addLocation_0 g d _ [.ref p, .int x, .int y, .int (bI q)] [] _
  simp only [T_X4_addLocation_0, fi_const, fi_iload, fi_aload, fi_istore, fi_astore, fi_iinc, fi_bin, fi_div, fi_un, fi_dup, fi_dup2, fi_pop, fi_if, fi_cmp, fi_getf, fi_putf, fi_putr, fi_ald, fi_ast, fi_alen, fi_iret, fi_zret, fi_vret, fi_cut, fi_no, fi_s0, fi_s1, fi_s2, fi_s3, fi_s4, fi_v0, fi_v1, fi_v2, fi_v3, fi_v4, fi_v5, fi_n0, fi_n1, fi_n2, fi_mm, fi_stat, fi_alds, fi_tsw, List.getElem?_cons_zero, List.getElem?_cons_succ, List.set_cons_zero, List.set_cons_succ, List.length_cons, List.length_nil, Option.toList_some, Option.toList_none, List.cons_append, List.nil_append, Value.category, true_and, k_0, k_1, k_2, k_3, k_4, false_implies, true_implies, reduceCtorEq]
  simp only [fi_const, fi_iload, fi_aload, fi_istore, fi_astore, fi_iinc, fi_bin, fi_div, fi_un, fi_dup, fi_dup2, fi_pop, fi_if, fi_cmp, fi_getf, fi_putf, fi_putr, fi_ald, fi_ast, fi_alen, fi_iret, fi_zret, fi_vret, fi_cut, fi_no, fi_s0, fi_s1, fi_s2, fi_s3, fi_s4, fi_v0, fi_v1, fi_v2, fi_v3, fi_v4, fi_v5, fi_n0, fi_n1, fi_n2, fi_mm, fi_stat, fi_alds, fi_tsw, List.getElem?_cons_zero, List.getElem?_cons_succ, List.set_cons_zero, List.set_cons_succ, List.length_cons, List.length_nil, Option.toList_some, Option.toList_none, List.cons_append, List.nil_append, Value.category, true_and, k_0, k_1, k_2, k_3, k_4, false_implies, true_implies, reduceCtorEq, hP.1, h0]
  refine pk_le 4 n (fun z => by omega) (fun _ => ?_)
  simp only [hP.2.1, hP.2.2.1, hP.2.2.2.1, fi_const, fi_iload, fi_aload, fi_istore, fi_astore, fi_iinc, fi_bin, fi_div, fi_un, fi_dup, fi_dup2, fi_pop, fi_if, fi_cmp, fi_getf, fi_putf, fi_putr, fi_ald, fi_ast, fi_alen, fi_iret, fi_zret, fi_vret, fi_cut, fi_no, fi_s0, fi_s1, fi_s2, fi_s3, fi_s4, fi_v0, fi_v1, fi_v2, fi_v3, fi_v4, fi_v5, fi_n0, fi_n1, fi_n2, fi_mm, fi_stat, fi_alds, fi_tsw, List.getElem?_cons_zero, List.getElem?_cons_succ, List.set_cons_zero, List.set_cons_succ, List.length_cons, List.length_nil, Option.toList_some, Option.toList_none, List.cons_append, List.nil_append, Value.category, true_and, k_0, k_1, k_2, k_3, k_4, false_implies, true_implies, reduceCtorEq, i4, nI_clamp (show n < 2 ^ 31 by omega), nar_int, nar_bI, e1, e2, e3, nI_1, hP.1]
theorem c_addActor {p n : Nat} (hP : shP S p) (hn : n < 6) (h0 : σ p 4 = nI n) (x y : Int32) : fs_Ct g m_X4_addActor [.ref p, .int x, .int y] ((S, fr), σ, τ) (fun r M' => r = none ∧ ((S, fr), fs_u (fs_u (fs_u σ (p + 4) n x) (p + 5) n y) p 4 (nI (n + 1)), τ) = M') := by
  have i6 : vp_in (nI n) 6 := vp_in_nI hn (by decide)
  have e1 : fs_u σ (p + 4) n x p 4 = nI n := by rw [fs_u_ne (by omega)]; exact h0
  have e2 : fs_u (fs_u σ (p + 4) n x) (p + 5) n y p 4 = nI n := by rw [fs_u_ne (by omega)]; exact e1
  refine fs_enterC (by decide) (by simp [fs_ok]) (Nat.le_of_ble_eq_true rfl) (fun d => S_X4_addActor_0 ?_)
  show T_X4_addActor_0 g d _ [.ref p, .int x, .int y] [] _
  simp only [T_X4_addActor_0, fi_const, fi_iload, fi_aload, fi_istore, fi_astore, fi_iinc, fi_bin, fi_div, fi_un, fi_dup, fi_dup2, fi_pop, fi_if, fi_cmp, fi_getf, fi_putf, fi_putr, fi_ald, fi_ast, fi_alen, fi_iret, fi_zret, fi_vret, fi_cut, fi_no, fi_s0, fi_s1, fi_s2, fi_s3, fi_s4, fi_v0, fi_v1, fi_v2, fi_v3, fi_v4, fi_v5, fi_n0, fi_n1, fi_n2, fi_mm, fi_stat, fi_alds, fi_tsw, List.getElem?_cons_zero, List.getElem?_cons_succ, List.set_cons_zero, List.set_cons_succ, List.length_cons, List.length_nil, Option.toList_some, Option.toList_none, List.cons_append, List.nil_append, Value.category, true_and, k_0, k_1, k_2, k_3, k_4, false_implies, true_implies, reduceCtorEq]
  simp only [fi_const, fi_iload, fi_aload, fi_istore, fi_astore, fi_iinc, fi_bin, fi_div, fi_un, fi_dup, fi_dup2, fi_pop, fi_if, fi_cmp, fi_getf, fi_putf, fi_putr, fi_ald, fi_ast, fi_alen, fi_iret, fi_zret, fi_vret, fi_cut, fi_no, fi_s0, fi_s1, fi_s2, fi_s3, fi_s4, fi_v0, fi_v1, fi_v2, fi_v3, fi_v4, fi_v5, fi_n0, fi_n1, fi_n2, fi_mm, fi_stat, fi_alds, fi_tsw, List.getElem?_cons_zero, List.getElem?_cons_succ, List.set_cons_zero, List.set_cons_succ, List.length_cons, List.length_nil, Option.toList_some, Option.toList_none, List.cons_append, List.nil_append, Value.category, true_and, k_0, k_1, k_2, k_3, k_4, false_implies, true_implies, reduceCtorEq, hP.1, h0]
  refine pk_le 6 n (fun z => by omega) (fun _ => ?_)
  simp only [hP.2.2.2.2.1, hP.2.2.2.2.2.1, fi_const, fi_iload, fi_aload, fi_istore, fi_astore, fi_iinc, fi_bin, fi_div, fi_un, fi_dup, fi_dup2, fi_pop, fi_if, fi_cmp, fi_getf, fi_putf, fi_putr, fi_ald, fi_ast, fi_alen, fi_iret, fi_zret, fi_vret, fi_cut, fi_no, fi_s0, fi_s1, fi_s2, fi_s3, fi_s4, fi_v0, fi_v1, fi_v2, fi_v3, fi_v4, fi_v5, fi_n0, fi_n1, fi_n2, fi_mm, fi_stat, fi_alds, fi_tsw, List.getElem?_cons_zero, List.getElem?_cons_succ, List.set_cons_zero, List.set_cons_succ, List.length_cons, List.length_nil, Option.toList_some, Option.toList_none, List.cons_append, List.nil_append, Value.category, true_and, k_0, k_1, k_2, k_3, k_4, false_implies, true_implies, reduceCtorEq, i6, nI_clamp (show n < 2 ^ 31 by omega), nar_int, e1, e2, nI_1, hP.1]
theorem c_addScene4 {p n : Nat} (hP : shP S p) (hn : n < 14) (h0 : σ p 7 = nI n) (x y w : Int32) (q : Bool) : fs_Ct g m_X4_addScene [.ref p, .int x, .int y, .int (bI q), .int w] ((S, fr), σ, τ) (fun r M' => r = none ∧ ((S, fr), fs_u (fs_u (fs_u (fs_u (fs_u σ (p + 6) n x) (p + 7) n y) (p + 8) n (bI q)) (p + 9) n w) p 7 (nI (n + 1)), τ) = M') := by
  have i14 : vp_in (nI n) 14 := vp_in_nI hn (by decide)
  have e1 : fs_u σ (p + 6) n x p 7 = nI n := by rw [fs_u_ne (by omega)]; exact h0
  have e2 : fs_u (fs_u σ (p + 6) n x) (p + 7) n y p 7 = nI n := by rw [fs_u_ne (by omega)]; exact e1
  have e3 : fs_u (fs_u (fs_u σ (p + 6) n x) (p + 7) n y) (p + 8) n (bI q) p 7 = nI n := by rw [fs_u_ne (by omega)]; exact e2
  have e4 : fs_u (fs_u (fs_u (fs_u σ (p + 6) n x) (p + 7) n y) (p + 8) n (bI q)) (p + 9) n w p 7 = nI n := by rw [fs_u_ne (by omega)]; exact e3
  refine fs_enterC (by decide) (by simp [fs_ok]) (Nat.le_of_ble_eq_true rfl) (fun d => S_X4_addScene_0 ?_)
  show T_X4_addScene_0 g d _ [.ref p, .int x, .int y, .int (bI q), .int w] [] _
  simp only [T_X4_addScene_0, fi_const, fi_iload, fi_aload, fi_istore, fi_astore, fi_iinc, fi_bin, fi_div, fi_un, fi_dup, fi_dup2, fi_pop, fi_if, fi_cmp, fi_getf, fi_putf, fi_putr, fi_ald, fi_ast, fi_alen, fi_iret, fi_zret, fi_vret, fi_cut, fi_no, fi_s0, fi_s1, fi_s2, fi_s3, fi_s4, fi_v0, fi_v1, fi_v2, fi_v3, fi_v4, fi_v5, fi_n0, fi_n1, fi_n2, fi_mm, fi_stat, fi_alds, fi_tsw, List.getElem?_cons_zero, List.getElem?_cons_succ, List.set_cons_zero, List.set_cons_succ, List.length_cons, List.length_nil, Option.toList_some, Option.toList_none, List.cons_append, List.nil_append, Value.category, true_and, k_0, k_1, k_2, k_3, k_4, false_implies, true_implies, reduceCtorEq]
  simp only [fi_const, fi_iload, fi_aload, fi_istore, fi_astore, fi_iinc, fi_bin, fi_div, fi_un, fi_dup, fi_dup2, fi_pop, fi_if, fi_cmp, fi_getf, fi_putf, fi_putr, fi_ald, fi_ast, fi_alen, fi_iret, fi_zret, fi_vret, fi_cut, fi_no, fi_s0, fi_s1, fi_s2, fi_s3, fi_s4, fi_v0, fi_v1, fi_v2, fi_v3, fi_v4, fi_v5, fi_n0, fi_n1, fi_n2, fi_mm, fi_stat, fi_alds, fi_tsw, List.getElem?_cons_zero, List.getElem?_cons_succ, List.set_cons_zero, List.set_cons_succ, List.length_cons, List.length_nil, Option.toList_some, Option.toList_none, List.cons_append, List.nil_append, Value.category, true_and, k_0, k_1, k_2, k_3, k_4, false_implies, true_implies, reduceCtorEq, hP.1, h0]
  refine pk_le 14 n (fun z => by omega) (fun _ => ?_)
  simp only [hP.2.2.2.2.2.2.1, hP.2.2.2.2.2.2.2.1, hP.2.2.2.2.2.2.2.2.1, hP.2.2.2.2.2.2.2.2.2.1, fi_const, fi_iload, fi_aload, fi_istore, fi_astore, fi_iinc, fi_bin, fi_div, fi_un, fi_dup, fi_dup2, fi_pop, fi_if, fi_cmp, fi_getf, fi_putf, fi_putr, fi_ald, fi_ast, fi_alen, fi_iret, fi_zret, fi_vret, fi_cut, fi_no, fi_s0, fi_s1, fi_s2, fi_s3, fi_s4, fi_v0, fi_v1, fi_v2, fi_v3, fi_v4, fi_v5, fi_n0, fi_n1, fi_n2, fi_mm, fi_stat, fi_alds, fi_tsw, List.getElem?_cons_zero, List.getElem?_cons_succ, List.set_cons_zero, List.set_cons_succ, List.length_cons, List.length_nil, Option.toList_some, Option.toList_none, List.cons_append, List.nil_append, Value.category, true_and, k_0, k_1, k_2, k_3, k_4, false_implies, true_implies, reduceCtorEq, i14, nI_clamp (show n < 2 ^ 31 by omega), nar_int, nar_bI, e1, e2, e3, e4, nI_1, hP.1]
theorem DC_loc (h : DC σ Z) (hL : Z.2.2.1.1 < 4) (hA : Z.2.2.1.2.1 ≤ 6) (hn : Z.2.2.1.2.2 ≤ 14) {x y : Int32} {q : Bool} : DC (fs_u (fs_u (fs_u (fs_u σ 28 Z.2.2.1.1 x) 29 Z.2.2.1.1 y) 30 Z.2.2.1.1 (bI q)) 27 0 (nI (Z.2.2.1.1 + 1))) (adL Z.1 Z.2.2.1.1 x y (bI q), Z.2.1, (Z.2.2.1.1 + 1, Z.2.2.1.2.1, Z.2.2.1.2.2), Z.2.2.2.1, Z.2.2.2.2) := by
  obtain ⟨a1, a2, a3, a4, a5, a6, a7, a8, a9⟩ := h
  have c : ∀ a, a ≠ 27 → a ≠ 28 → a ≠ 29 → a ≠ 30 → fs_u (fs_u (fs_u (fs_u σ 28 Z.2.2.1.1 x) 29 Z.2.2.1.1 y) 30 Z.2.2.1.1 (bI q)) 27 0 (nI (Z.2.2.1.1 + 1)) a = σ a := fun a h1 h2 h3 h4 => by rw [fs_u_ne h1, fs_u_ne h4, fs_u_ne h3, fs_u_ne h2]
  have k : ∀ j, 12 ≤ j → j ≠ 80 → adL Z.1 Z.2.2.1.1 x y (bI q) j = Z.1 j := fun j h1 h2 => by unfold adL; rw [if_neg (by omega), if_neg (by omega), if_neg (by omega), if_neg h2]
  refine ⟨⟨u_eq .., ?_, ?_⟩, fun l hl => ?_, fun a ha => ?_, fun s hs => ?_, ?_, ?_, ?_, ?_, ?_⟩
  · simp only [fs_u]; rw [if_neg (by omega), if_neg (by omega), if_neg (by omega), if_neg (by omega)]; exact a1.2.1
  · simp only [fs_u]; rw [if_neg (by omega), if_neg (by omega), if_neg (by omega), if_neg (by omega)]; exact a1.2.2
  · by_cases w : l = Z.2.2.1.1
    · subst w
      refine ⟨?_, ?_, ?_⟩
      · simp only [fs_u, adL]; simp
      · simp only [fs_u, adL]; rw [if_neg (by omega), if_neg (by omega), if_pos ⟨trivial, trivial⟩, if_neg (by omega), if_pos trivial]
      · simp only [fs_u, adL]; rw [if_neg (by omega), if_pos ⟨trivial, trivial⟩, if_neg (by omega), if_neg (by omega), if_pos trivial]
    · have hl' : l < Z.2.2.1.1 := by have hl2 : l < Z.2.2.1.1 + 1 := hl; omega
      obtain ⟨b1, b2, b3⟩ := a2 l hl'
      refine ⟨?_, ?_, ?_⟩
      · simp only [fs_u, adL]; rw [if_neg (by omega), if_neg (by omega), if_neg (by omega), if_neg (fun z => w z.2), if_neg w, if_neg (by omega), if_neg (by omega), if_neg (by omega)]; exact b1
      · simp only [fs_u, adL]; rw [if_neg (by omega), if_neg (by omega), if_neg (fun z => w z.2), if_neg (by omega), if_neg (by omega), if_neg (by omega), if_neg (by omega), if_neg (by omega)]; exact b2
      · simp only [fs_u, adL]; rw [if_neg (by omega), if_neg (fun z => w z.2), if_neg (by omega), if_neg (by omega), if_neg (by omega), if_neg (by omega), if_neg (by omega), if_neg (by omega)]; exact b3
  · have ha' : a < Z.2.2.1.2.1 := ha
    rw [c 31 (by decide) (by decide) (by decide) (by decide), c 32 (by decide) (by decide) (by decide) (by decide)]
    show _ = adL _ _ _ _ _ (12 + a) ∧ _ = adL _ _ _ _ _ (18 + a)
    rw [k (12 + a) (by omega) (by omega), k (18 + a) (by omega) (by omega)]
    exact a3 a ha
  · have hs' : s < Z.2.2.1.2.2 := hs
    rw [c 33 (by decide) (by decide) (by decide) (by decide), c 34 (by decide) (by decide) (by decide) (by decide), c 35 (by decide) (by decide) (by decide) (by decide), c 36 (by decide) (by decide) (by decide) (by decide)]
    show _ = adL _ _ _ _ _ (24 + s) ∧ _ = adL _ _ _ _ _ (38 + s) ∧ _ = adL _ _ _ _ _ (52 + s) ∧ _ = adL _ _ _ _ _ (66 + s)
    rw [k (24 + s) (by omega) (by omega), k (38 + s) (by omega) (by omega), k (52 + s) (by omega) (by omega), k (66 + s) (by omega) (by omega)]
    exact a4 s hs
  · rw [c 37 (by decide) (by decide) (by decide) (by decide)]; exact a5
  · rw [c 38 (by decide) (by decide) (by decide) (by decide)]; exact a6
  · have a7' := a7
    unfold tab at a7' ⊢
    rw [c 37 (by decide) (by decide) (by decide) (by decide), c (39 + 1) (by decide) (by decide) (by decide) (by decide), c (39 + 2) (by decide) (by decide) (by decide) (by decide), c (39 + 3) (by decide) (by decide) (by decide) (by decide), c (39 + 4) (by decide) (by decide) (by decide) (by decide), c (39 + 5) (by decide) (by decide) (by decide) (by decide), c (27 + 6) (by decide) (by decide) (by decide) (by decide), c (27 + 7) (by decide) (by decide) (by decide) (by decide), c (27 + 8) (by decide) (by decide) (by decide) (by decide), c (27 + 9) (by decide) (by decide) (by decide) (by decide)]
    exact a7'
  · rw [c 26 (by decide) (by decide) (by decide) (by decide)]; exact a8
  · rw [c 26 (by decide) (by decide) (by decide) (by decide)]; exact a9
theorem DC_act (h : DC σ Z) (hL : Z.2.2.1.1 ≤ 4) (hA : Z.2.2.1.2.1 < 6) (hn : Z.2.2.1.2.2 ≤ 14) {x y : Int32} : DC (fs_u (fs_u (fs_u σ 31 Z.2.2.1.2.1 x) 32 Z.2.2.1.2.1 y) 27 4 (nI (Z.2.2.1.2.1 + 1))) (adA Z.1 Z.2.2.1.2.1 x y, Z.2.1, (Z.2.2.1.1, Z.2.2.1.2.1 + 1, Z.2.2.1.2.2), Z.2.2.2.1, Z.2.2.2.2) := by
  obtain ⟨a1, a2, a3, a4, a5, a6, a7, a8, a9⟩ := h
  have c : ∀ a, a ≠ 27 → a ≠ 31 → a ≠ 32 → fs_u (fs_u (fs_u σ 31 Z.2.2.1.2.1 x) 32 Z.2.2.1.2.1 y) 27 4 (nI (Z.2.2.1.2.1 + 1)) a = σ a := fun a h1 h2 h3 => by rw [fs_u_ne h1, fs_u_ne h3, fs_u_ne h2]
  have k : ∀ j, j < 12 ∨ 24 ≤ j → j ≠ 81 → adA Z.1 Z.2.2.1.2.1 x y j = Z.1 j := fun j h1 h2 => by unfold adA; rw [if_neg (by omega), if_neg (by omega), if_neg h2]
  refine ⟨⟨?_, u_eq .., ?_⟩, fun l hl => ?_, fun a ha => ?_, fun s hs => ?_, ?_, ?_, ?_, ?_, ?_⟩
  · simp only [fs_u]; rw [if_neg (by omega), if_neg (by omega), if_neg (by omega)]; exact a1.1
  · simp only [fs_u]; rw [if_neg (by omega), if_neg (by omega), if_neg (by omega)]; exact a1.2.2
  · have hl' : l < Z.2.2.1.1 := hl
    rw [c 28 (by decide) (by decide) (by decide), c 29 (by decide) (by decide) (by decide), c 30 (by decide) (by decide) (by decide)]
    show _ = adA _ _ _ _ l ∧ _ = adA _ _ _ _ (4 + l) ∧ _ = adA _ _ _ _ (8 + l)
    rw [k l (by omega) (by omega), k (4 + l) (by omega) (by omega), k (8 + l) (by omega) (by omega)]
    exact a2 l hl
  · by_cases w : a = Z.2.2.1.2.1
    · subst w
      refine ⟨?_, ?_⟩
      · simp only [fs_u, adA]; rw [if_neg (by omega), if_neg (by omega), if_pos ⟨trivial, trivial⟩, if_pos trivial]
      · simp only [fs_u, adA]; rw [if_neg (by omega), if_pos ⟨trivial, trivial⟩, if_neg (by omega), if_pos trivial]
    · have ha' : a < Z.2.2.1.2.1 := by have ha2 : a < Z.2.2.1.2.1 + 1 := ha; omega
      obtain ⟨b1, b2⟩ := a3 a ha'
      refine ⟨?_, ?_⟩
      · simp only [fs_u, adA]; rw [if_neg (by omega), if_neg (by omega), if_neg (fun z => w z.2), if_neg (by omega), if_neg (by omega), if_neg (by omega)]; exact b1
      · simp only [fs_u, adA]; rw [if_neg (by omega), if_neg (fun z => w z.2), if_neg (by omega), if_neg (by omega), if_neg (by omega), if_neg (by omega)]; exact b2
  · have hs' : s < Z.2.2.1.2.2 := hs
    rw [c 33 (by decide) (by decide) (by decide), c 34 (by decide) (by decide) (by decide), c 35 (by decide) (by decide) (by decide), c 36 (by decide) (by decide) (by decide)]
    show _ = adA _ _ _ _ (24 + s) ∧ _ = adA _ _ _ _ (38 + s) ∧ _ = adA _ _ _ _ (52 + s) ∧ _ = adA _ _ _ _ (66 + s)
    rw [k (24 + s) (by omega) (by omega), k (38 + s) (by omega) (by omega), k (52 + s) (by omega) (by omega), k (66 + s) (by omega) (by omega)]
    exact a4 s hs
  · rw [c 37 (by decide) (by decide) (by decide)]; exact a5
  · rw [c 38 (by decide) (by decide) (by decide)]; exact a6
  · have a7' := a7
    unfold tab at a7' ⊢
    rw [c 37 (by decide) (by decide) (by decide), c (39 + 1) (by decide) (by decide) (by decide), c (39 + 2) (by decide) (by decide) (by decide), c (39 + 3) (by decide) (by decide) (by decide), c (39 + 4) (by decide) (by decide) (by decide), c (39 + 5) (by decide) (by decide) (by decide), c (27 + 6) (by decide) (by decide) (by decide), c (27 + 7) (by decide) (by decide) (by decide), c (27 + 8) (by decide) (by decide) (by decide), c (27 + 9) (by decide) (by decide) (by decide)]
    exact a7'
  · rw [c 26 (by decide) (by decide) (by decide)]; exact a8
  · rw [c 26 (by decide) (by decide) (by decide)]; exact a9
theorem tab_add {σ' : Nat → Nat → Int32} {n : Nat} {dy : Nat → Int32} (h : tab σ 39 27 dy n) (hm : ∀ e, e < 12 → ¬ dy n = nI e) (h1 : ∀ a, 40 ≤ a → a ≤ 44 → σ' a = σ a) (h2 : ∀ a j, 33 ≤ a → a ≤ 36 → j < n → σ' a j = σ a j) : tab σ' 39 27 dy (n + 1) := by
  intro e he
  obtain ⟨t1, t2, t3, t4, t5⟩ := h e he
  have hn := hm e he
  have ha : anF dy e (n + 1) 0 = anF dy e n 0 := anF_last (by rw [Nat.zero_add]; exact hn)
  refine ⟨?_, ?_, ?_, ?_, ?_⟩
  · rw [h1 (39 + 1) (by decide) (by decide), t1]; simp only [scF]; rw [if_neg hn]
  · rw [h1 (39 + 2) (by decide) (by decide), t2]; unfold plF; rw [ha]
    cases w : anF dy e n 0 with
    | none => rfl
    | some k => exact (h2 (27 + 6) k (by decide) (by decide) (anF_some w).1).symm
  · rw [h1 (39 + 3) (by decide) (by decide), t3]; unfold pnF; rw [ha]
    cases w : anF dy e n 0 with
    | none => rfl
    | some k => exact (h2 (27 + 8) k (by decide) (by decide) (anF_some w).1).symm
  · rw [h1 (39 + 4) (by decide) (by decide), t4]; simp only [leF]; rw [if_neg hn]; exact leF_congr (fun _ _ => rfl) (fun k hk => (h2 (27 + 7) k (by decide) (by decide) hk).symm)
  · rw [h1 (39 + 5) (by decide) (by decide), t5]; simp only [caF]; rw [if_neg hn]; exact caF_congr (fun _ _ => rfl) (fun k hk => (h2 (27 + 9) k (by decide) (by decide) hk).symm)
theorem DC_scn (h : DC σ Z) (hZ : okZ Z) (hn : Z.2.2.1.2.2 < 14) {x y w : Int32} {q : Bool} : DC (fs_u (fs_u (fs_u (fs_u (fs_u σ 33 Z.2.2.1.2.2 x) 34 Z.2.2.1.2.2 y) 35 Z.2.2.1.2.2 (bI q)) 36 Z.2.2.1.2.2 w) 27 7 (nI (Z.2.2.1.2.2 + 1))) (adS Z.1 Z.2.2.1.2.2 x y (bI q) w, Z.2.1, (Z.2.2.1.1, Z.2.2.1.2.1, Z.2.2.1.2.2 + 1), Z.2.2.2.1, Z.2.2.2.2) := by
  obtain ⟨a1, a2, a3, a4, a5, a6, a7, a8, a9⟩ := h
  have hL := hZ.1.2.2.2.1
  have hA := hZ.1.2.2.2.2.1
  have c : ∀ a, a ≠ 27 → ¬ (33 ≤ a ∧ a ≤ 36) → fs_u (fs_u (fs_u (fs_u (fs_u σ 33 Z.2.2.1.2.2 x) 34 Z.2.2.1.2.2 y) 35 Z.2.2.1.2.2 (bI q)) 36 Z.2.2.1.2.2 w) 27 7 (nI (Z.2.2.1.2.2 + 1)) a = σ a := fun a h1 h2 => by rw [fs_u_ne h1, fs_u_ne (by omega), fs_u_ne (by omega), fs_u_ne (by omega), fs_u_ne (by omega)]
  have cr : ∀ a j, 33 ≤ a → a ≤ 36 → j < Z.2.2.1.2.2 → fs_u (fs_u (fs_u (fs_u (fs_u σ 33 Z.2.2.1.2.2 x) 34 Z.2.2.1.2.2 y) 35 Z.2.2.1.2.2 (bI q)) 36 Z.2.2.1.2.2 w) 27 7 (nI (Z.2.2.1.2.2 + 1)) a j = σ a j := fun a j h1 h2 h3 => by
    simp only [fs_u]; rw [if_neg (by omega), if_neg (by omega), if_neg (by omega), if_neg (by omega), if_neg (by omega)]
  have k : ∀ j, j < 24 → adS Z.1 Z.2.2.1.2.2 x y (bI q) w j = Z.1 j := fun j h1 => by unfold adS; rw [if_neg (by omega), if_neg (by omega), if_neg (by omega), if_neg (by omega), if_neg (by omega)]
  refine ⟨⟨?_, ?_, u_eq ..⟩, fun l hl => ?_, fun a ha => ?_, fun s hs => ?_, ?_, ?_, ?_, ?_, ?_⟩
  · simp only [fs_u]; rw [if_neg (by omega), if_neg (by omega), if_neg (by omega), if_neg (by omega), if_neg (by omega)]; exact a1.1
  · simp only [fs_u]; rw [if_neg (by omega), if_neg (by omega), if_neg (by omega), if_neg (by omega), if_neg (by omega)]; exact a1.2.1
  · have hl' : l < Z.2.2.1.1 := hl
    rw [c 28 (by decide) (by decide), c 29 (by decide) (by decide), c 30 (by decide) (by decide)]
    show _ = adS _ _ _ _ _ _ l ∧ _ = adS _ _ _ _ _ _ (4 + l) ∧ _ = adS _ _ _ _ _ _ (8 + l)
    rw [k l (by omega), k (4 + l) (by omega), k (8 + l) (by omega)]
    exact a2 l hl
  · have ha' : a < Z.2.2.1.2.1 := ha
    rw [c 31 (by decide) (by decide), c 32 (by decide) (by decide)]
    show _ = adS _ _ _ _ _ _ (12 + a) ∧ _ = adS _ _ _ _ _ _ (18 + a)
    rw [k (12 + a) (by omega), k (18 + a) (by omega)]
    exact a3 a ha
  · show _ = adS _ _ _ _ _ _ (24 + s) ∧ _ = adS _ _ _ _ _ _ (38 + s) ∧ _ = adS _ _ _ _ _ _ (52 + s) ∧ _ = adS _ _ _ _ _ _ (66 + s)
    by_cases v : s = Z.2.2.1.2.2
    · subst v
      refine ⟨?_, ?_, ?_, ?_⟩
      · simp only [fs_u, adS]; rw [if_neg (by omega), if_neg (by omega), if_neg (by omega), if_neg (by omega), if_pos ⟨trivial, trivial⟩, if_pos trivial]
      · simp only [fs_u, adS]; rw [if_neg (by omega), if_neg (by omega), if_neg (by omega), if_pos ⟨trivial, trivial⟩, if_neg (by omega), if_pos trivial]
      · simp only [fs_u, adS]; rw [if_neg (by omega), if_neg (by omega), if_pos ⟨trivial, trivial⟩, if_neg (by omega), if_neg (by omega), if_pos trivial]
      · simp only [fs_u, adS]; rw [if_neg (by omega), if_pos ⟨trivial, trivial⟩, if_neg (by omega), if_neg (by omega), if_neg (by omega), if_pos trivial]
    · have hs' : s < Z.2.2.1.2.2 := by have hs2 : s < Z.2.2.1.2.2 + 1 := hs; omega
      obtain ⟨b1, b2, b3, b4⟩ := a4 s hs'
      have ks : ∀ o, (o = 24 ∨ o = 38 ∨ o = 52 ∨ o = 66) → adS Z.1 Z.2.2.1.2.2 x y (bI q) w (o + s) = Z.1 (o + s) := fun o ho => by unfold adS; rw [if_neg (by omega), if_neg (by omega), if_neg (by omega), if_neg (by omega), if_neg (by omega)]
      rw [cr 33 s (by decide) (by decide) hs', cr 34 s (by decide) (by decide) hs', cr 35 s (by decide) (by decide) hs', cr 36 s (by decide) (by decide) hs', ks 24 (by omega), ks 38 (by omega), ks 52 (by omega), ks 66 (by omega)]
      exact ⟨b1, b2, b3, b4⟩
  · rw [c 37 (by decide) (by decide)]; exact a5
  · rw [c 38 (by decide) (by decide)]; exact a6
  · rw [c 37 (by decide) (by decide)]
    refine tab_add a7 (fun e he z => ?_) (fun a h1 h2 => c a (by omega) (by omega)) cr
    rw [a5 _ (by omega)] at z
    have h5' : ∀ k, k < 14 → Z.2.1 (4 + k) = -1 ∨ (k < Z.2.2.1.2.2 ∧ ∃ e, e < 12 ∧ Z.2.1 (4 + k) = nI e) := hZ.2.2.2.2.2.1
    rcases h5' _ hn with v | ⟨v, -⟩
    · rw [v] at z; exact m1_nI he z
    · omega
  · rw [c 26 (by decide) (by decide)]; exact a8
  · rw [c 26 (by decide) (by decide)]; exact a9
theorem LI.mem (h : LI σ b L Z k) {σ' : Nat → Nat → Int32} {Z' : Zt} (hs : ∀ a, a < 26 ∨ a = 45 → σ' a = σ a) (hd : DC σ' Z') (hZ : okZ Z') : LI σ' b L Z' k := by
  obtain ⟨h1, h2, h3, h4, h5⟩ := h
  obtain ⟨t1, t2, t3⟩ := h1
  refine ⟨⟨by rw [hs 45 (Or.inr rfl)]; exact t1, t2, by rw [hs 1 (by omega)]; exact t3⟩, h2, h3.keep (hs 45 (Or.inr rfl)), hd, hZ⟩
theorem rdQ.tr {σ1 : Nat → Nat → Int32} {o : Er ⊕ (Zt × Nat)} {r : Option Value} {M' : fs_M} (h : loC σ σ1) (h2 : rdQ S fr τ σ1 b L o r M') : rdQ S fr τ σ b L o r M' := by
  obtain ⟨σ', e, f1, f2⟩ := h2
  exact ⟨σ', e, h.tr f1, f2⟩
theorem rdQ.z {o : Er ⊕ (Zt × Nat)} {r : Option Value} {M' : fs_M} (h : rdQ S fr τ σ b L o r M') : ∃ x : Int32, r = some (.int x) ∧ (x = 0 ∨ x = 1) := by
  obtain ⟨σ', -, -, h⟩ := h
  cases o with
  | inl e => exact ⟨0, h.1, Or.inl rfl⟩
  | inr p => exact ⟨1, h.1, Or.inr rfl⟩
theorem c_readLocation (hS : shL S) (h : LI σ b L Z k) : fs_Ct g m_X2_readLocation [.ref 26] ((S, fr), σ, τ) (rdQ S fr τ σ b L (pSem b L (sLoc b L k Z))) := by
  obtain ⟨h1, h2, h3, h4, h5⟩ := id h
  have hP := hS.2.2.2.1
  have hnL := h5.1.2.2.2.1
  have hnA := h5.1.2.2.2.2.1
  have hnS := h5.1.2.2.2.2.2.1
  refine fs_enterC (by decide) (by simp [fs_ok]) (Nat.le_of_ble_eq_true rfl) (fun d => S_X2_readLocation_0 ?_)
  show T_X2_readLocation_0 g d _ [.ref 26, .null, .null, .null] [] _
  simp only [T_X2_readLocation_0, fi_const, fi_iload, fi_aload, fi_istore, fi_astore, fi_iinc, fi_bin, fi_div, fi_un, fi_dup, fi_dup2, fi_pop, fi_if, fi_cmp, fi_getf, fi_putf, fi_putr, fi_ald, fi_ast, fi_alen, fi_iret, fi_zret, fi_vret, fi_cut, fi_no, fi_s0, fi_s1, fi_s2, fi_s3, fi_s4, fi_v0, fi_v1, fi_v2, fi_v3, fi_v4, fi_v5, fi_n0, fi_n1, fi_n2, fi_mm, fi_stat, fi_alds, fi_tsw, List.getElem?_cons_zero, List.getElem?_cons_succ, List.set_cons_zero, List.set_cons_succ, List.length_cons, List.length_nil, Option.toList_some, Option.toList_none, List.cons_append, List.nil_append, Value.category, true_and, k_0, k_1, k_2, k_3, k_4, false_implies, true_implies, reduceCtorEq]
  simp only [fi_const, fi_iload, fi_aload, fi_istore, fi_astore, fi_iinc, fi_bin, fi_div, fi_un, fi_dup, fi_dup2, fi_pop, fi_if, fi_cmp, fi_getf, fi_putf, fi_putr, fi_ald, fi_ast, fi_alen, fi_iret, fi_zret, fi_vret, fi_cut, fi_no, fi_s0, fi_s1, fi_s2, fi_s3, fi_s4, fi_v0, fi_v1, fi_v2, fi_v3, fi_v4, fi_v5, fi_n0, fi_n1, fi_n2, fi_mm, fi_stat, fi_alds, fi_tsw, List.getElem?_cons_zero, List.getElem?_cons_succ, List.set_cons_zero, List.set_cons_succ, List.length_cons, List.length_nil, Option.toList_some, Option.toList_none, List.cons_append, List.nil_append, Value.category, true_and, k_0, k_1, k_2, k_3, k_4, false_implies, true_implies, reduceCtorEq, hS.1, hP.1, h4.1.1]
  unfold sLoc
  refine pk_lt Z.2.2.1.1 4 (fun q => ?_) (fun q => ?_)
  · rw [if_neg (by omega)]
    refine ⟨by decide, ⟨_, hS.2.1⟩, (c_adv hS h).mono ?_⟩
    rintro r M' ⟨rfl, σ1, rfl, f1, l1⟩
    have lo1 := loC.tk f1
    simp only [fi_const, fi_iload, fi_aload, fi_istore, fi_astore, fi_iinc, fi_bin, fi_div, fi_un, fi_dup, fi_dup2, fi_pop, fi_if, fi_cmp, fi_getf, fi_putf, fi_putr, fi_ald, fi_ast, fi_alen, fi_iret, fi_zret, fi_vret, fi_cut, fi_no, fi_s0, fi_s1, fi_s2, fi_s3, fi_s4, fi_v0, fi_v1, fi_v2, fi_v3, fi_v4, fi_v5, fi_n0, fi_n1, fi_n2, fi_mm, fi_stat, fi_alds, fi_tsw, List.getElem?_cons_zero, List.getElem?_cons_succ, List.set_cons_zero, List.set_cons_succ, List.length_cons, List.length_nil, Option.toList_some, Option.toList_none, List.cons_append, List.nil_append, Value.category, true_and, k_0, k_1, k_2, k_3, k_4, false_implies, true_implies, reduceCtorEq, hS.1]
    refine ⟨by decide, ⟨_, rfl⟩, (c_takeNewName hS l1).mono ?_⟩
    rintro r M' ⟨σ2, rfl, lo2, hm⟩
    have lo12 := lo1.tr lo2
    cases w : eNew b L (tE b L k) Z.1 Z.2.2.1.1 Z.2.2.1.2.1 with
    | some e =>
      rw [w] at hm
      obtain ⟨rfl, he⟩ := hm
      simp only [fi_const, fi_iload, fi_aload, fi_istore, fi_astore, fi_iinc, fi_bin, fi_div, fi_un, fi_dup, fi_dup2, fi_pop, fi_if, fi_cmp, fi_getf, fi_putf, fi_putr, fi_ald, fi_ast, fi_alen, fi_iret, fi_zret, fi_vret, fi_cut, fi_no, fi_s0, fi_s1, fi_s2, fi_s3, fi_s4, fi_v0, fi_v1, fi_v2, fi_v3, fi_v4, fi_v5, fi_n0, fi_n1, fi_n2, fi_mm, fi_stat, fi_alds, fi_tsw, List.getElem?_cons_zero, List.getElem?_cons_succ, List.set_cons_zero, List.set_cons_succ, List.length_cons, List.length_nil, Option.toList_some, Option.toList_none, List.cons_append, List.nil_append, Value.category, true_and, k_0, k_1, k_2, k_3, k_4, false_implies, true_implies, reduceCtorEq, hS.1]
      refine ⟨?_, fun z => absurd trivial z⟩
      refine S_X2_readLocation_47 ?_
      simp only [T_X2_readLocation_47, fi_const, fi_iload, fi_aload, fi_istore, fi_astore, fi_iinc, fi_bin, fi_div, fi_un, fi_dup, fi_dup2, fi_pop, fi_if, fi_cmp, fi_getf, fi_putf, fi_putr, fi_ald, fi_ast, fi_alen, fi_iret, fi_zret, fi_vret, fi_cut, fi_no, fi_s0, fi_s1, fi_s2, fi_s3, fi_s4, fi_v0, fi_v1, fi_v2, fi_v3, fi_v4, fi_v5, fi_n0, fi_n1, fi_n2, fi_mm, fi_stat, fi_alds, fi_tsw, List.getElem?_cons_zero, List.getElem?_cons_succ, List.set_cons_zero, List.set_cons_succ, List.length_cons, List.length_nil, Option.toList_some, Option.toList_none, List.cons_append, List.nil_append, Value.category, true_and, k_0, k_1, k_2, k_3, k_4, false_implies, true_implies, reduceCtorEq]
      refine ⟨?_, fun z => absurd trivial z⟩
      exact ⟨Or.inl trivial, σ2, rfl, lo12, rfl, he⟩
    | none =>
      rw [w] at hm
      obtain ⟨rfl, l2⟩ := hm
      have hnm : tK b L (tE b L k) = 1 := by
        unfold eNew at w
        by_cases v : isNm b L (tE b L k) = true
        · exact isNm_1 v
        · rw [if_neg v] at w; cases w
      simp only [fi_const, fi_iload, fi_aload, fi_istore, fi_astore, fi_iinc, fi_bin, fi_div, fi_un, fi_dup, fi_dup2, fi_pop, fi_if, fi_cmp, fi_getf, fi_putf, fi_putr, fi_ald, fi_ast, fi_alen, fi_iret, fi_zret, fi_vret, fi_cut, fi_no, fi_s0, fi_s1, fi_s2, fi_s3, fi_s4, fi_v0, fi_v1, fi_v2, fi_v3, fi_v4, fi_v5, fi_n0, fi_n1, fi_n2, fi_mm, fi_stat, fi_alds, fi_tsw, List.getElem?_cons_zero, List.getElem?_cons_succ, List.set_cons_zero, List.set_cons_succ, List.length_cons, List.length_nil, Option.toList_some, Option.toList_none, List.cons_append, List.nil_append, Value.category, true_and, k_0, k_1, k_2, k_3, k_4, false_implies, true_implies, reduceCtorEq, hS.1]
      refine ⟨fun z => absurd z (tN_m1 l1.2.1 hnm), fun _ => ⟨by decide, ⟨_, rfl⟩, (c_takeInteger (lo := 0) (hi := 9999) hS l2 (by decide) (by decide)).mono ?_⟩⟩
      rintro r M' ⟨σ3, rfl, lo3, hm⟩
      have lo13 := lo12.tr lo3
      cases w2 : eInt b L 0 9999 (tE b L (tE b L k)) with
      | some e =>
        rw [w2] at hm
        obtain ⟨rfl, he⟩ := hm
        simp only [fi_const, fi_iload, fi_aload, fi_istore, fi_astore, fi_iinc, fi_bin, fi_div, fi_un, fi_dup, fi_dup2, fi_pop, fi_if, fi_cmp, fi_getf, fi_putf, fi_putr, fi_ald, fi_ast, fi_alen, fi_iret, fi_zret, fi_vret, fi_cut, fi_no, fi_s0, fi_s1, fi_s2, fi_s3, fi_s4, fi_v0, fi_v1, fi_v2, fi_v3, fi_v4, fi_v5, fi_n0, fi_n1, fi_n2, fi_mm, fi_stat, fi_alds, fi_tsw, List.getElem?_cons_zero, List.getElem?_cons_succ, List.set_cons_zero, List.set_cons_succ, List.length_cons, List.length_nil, Option.toList_some, Option.toList_none, List.cons_append, List.nil_append, Value.category, true_and, k_0, k_1, k_2, k_3, k_4, false_implies, true_implies, reduceCtorEq]
        refine S_X2_readLocation_47 ?_
        simp only [T_X2_readLocation_47, fi_const, fi_iload, fi_aload, fi_istore, fi_astore, fi_iinc, fi_bin, fi_div, fi_un, fi_dup, fi_dup2, fi_pop, fi_if, fi_cmp, fi_getf, fi_putf, fi_putr, fi_ald, fi_ast, fi_alen, fi_iret, fi_zret, fi_vret, fi_cut, fi_no, fi_s0, fi_s1, fi_s2, fi_s3, fi_s4, fi_v0, fi_v1, fi_v2, fi_v3, fi_v4, fi_v5, fi_n0, fi_n1, fi_n2, fi_mm, fi_stat, fi_alds, fi_tsw, List.getElem?_cons_zero, List.getElem?_cons_succ, List.set_cons_zero, List.set_cons_succ, List.length_cons, List.length_nil, Option.toList_some, Option.toList_none, List.cons_append, List.nil_append, Value.category, true_and, k_0, k_1, k_2, k_3, k_4, false_implies, true_implies, reduceCtorEq]
        refine ⟨?_, fun z => absurd trivial z⟩
        exact ⟨Or.inl trivial, σ3, rfl, lo13, rfl, he⟩
      | none =>
        rw [w2] at hm
        obtain ⟨rfl, l3⟩ := hm
        have hv := tV_le b L (tE b L (tE b L k))
        have hv2 : tV b L (tE b L (tE b L k)) ≤ 9999 := by
          unfold eInt at w2
          by_cases v : tK b L (tE b L (tE b L k)) = 2
          · rw [if_pos v] at w2
            by_cases u : tV b L (tE b L (tE b L k)) < 0 ∨ 9999 < tV b L (tE b L (tE b L k))
            · rw [if_pos u] at w2; cases w2
            · omega
          · rw [if_neg v] at w2; cases w2
        have go : ∀ q : Bool, (tW b L (tE b L (tE b L (tE b L k))) = nI 5 ∨ tW b L (tE b L (tE b L (tE b L k))) = nI 6) → q = decide (tW b L (tE b L (tE b L (tE b L k))) = nI 5) → fs_R g m_X2_readLocation d (0, 0) 88 [.ref 26, .int (tN b L (tE b L k)), .int (nI (tV b L (tE b L (tE b L k)))), .int (bI q)] [] ((S, fr), σ3, τ) (rdQ S fr τ σ b L (pSem b L (if tW b L (tE b L (tE b L (tE b L k))) = nI 5 ∨ tW b L (tE b L (tE b L (tE b L k))) = nI 6 then .inr ((adL Z.1 Z.2.2.1.1 (tN b L (tE b L k)) (nI (tV b L (tE b L (tE b L k)))) (bI (decide (tW b L (tE b L (tE b L (tE b L k))) = nI 5))), Z.2.1, (Z.2.2.1.1 + 1, Z.2.2.1.2.1, Z.2.2.1.2.2), Z.2.2.2.1, Z.2.2.2.2), tE b L (tE b L (tE b L (tE b L k)))) else .inl (-11, tS b L (tE b L (tE b L (tE b L k))))))) := by
          intro q hw hq
          subst hq
          rw [if_pos hw]
          refine S_X2_readLocation_88 ?_
          simp only [T_X2_readLocation_88, fi_const, fi_iload, fi_aload, fi_istore, fi_astore, fi_iinc, fi_bin, fi_div, fi_un, fi_dup, fi_dup2, fi_pop, fi_if, fi_cmp, fi_getf, fi_putf, fi_putr, fi_ald, fi_ast, fi_alen, fi_iret, fi_zret, fi_vret, fi_cut, fi_no, fi_s0, fi_s1, fi_s2, fi_s3, fi_s4, fi_v0, fi_v1, fi_v2, fi_v3, fi_v4, fi_v5, fi_n0, fi_n1, fi_n2, fi_mm, fi_stat, fi_alds, fi_tsw, List.getElem?_cons_zero, List.getElem?_cons_succ, List.set_cons_zero, List.set_cons_succ, List.length_cons, List.length_nil, Option.toList_some, Option.toList_none, List.cons_append, List.nil_append, Value.category, true_and, k_0, k_1, k_2, k_3, k_4, false_implies, true_implies, reduceCtorEq, hS.1]
          refine ⟨by decide, ⟨_, hS.2.1⟩, (c_adv hS l3).mono ?_⟩
          rintro r M' ⟨rfl, σ4, rfl, f4, l4⟩
          simp only [fi_const, fi_iload, fi_aload, fi_istore, fi_astore, fi_iinc, fi_bin, fi_div, fi_un, fi_dup, fi_dup2, fi_pop, fi_if, fi_cmp, fi_getf, fi_putf, fi_putr, fi_ald, fi_ast, fi_alen, fi_iret, fi_zret, fi_vret, fi_cut, fi_no, fi_s0, fi_s1, fi_s2, fi_s3, fi_s4, fi_v0, fi_v1, fi_v2, fi_v3, fi_v4, fi_v5, fi_n0, fi_n1, fi_n2, fi_mm, fi_stat, fi_alds, fi_tsw, List.getElem?_cons_zero, List.getElem?_cons_succ, List.set_cons_zero, List.set_cons_succ, List.length_cons, List.length_nil, Option.toList_some, Option.toList_none, List.cons_append, List.nil_append, Value.category, true_and, k_0, k_1, k_2, k_3, k_4, false_implies, true_implies, reduceCtorEq, hS.1]
          refine ⟨by decide, ⟨_, hP.1⟩, (c_addLocation hP q l4.2.2.2.1.1.1 _ _ _).mono ?_⟩
          rintro r M' ⟨rfl, rfl⟩
          simp only [fi_const, fi_iload, fi_aload, fi_istore, fi_astore, fi_iinc, fi_bin, fi_div, fi_un, fi_dup, fi_dup2, fi_pop, fi_if, fi_cmp, fi_getf, fi_putf, fi_putr, fi_ald, fi_ast, fi_alen, fi_iret, fi_zret, fi_vret, fi_cut, fi_no, fi_s0, fi_s1, fi_s2, fi_s3, fi_s4, fi_v0, fi_v1, fi_v2, fi_v3, fi_v4, fi_v5, fi_n0, fi_n1, fi_n2, fi_mm, fi_stat, fi_alds, fi_tsw, List.getElem?_cons_zero, List.getElem?_cons_succ, List.set_cons_zero, List.set_cons_succ, List.length_cons, List.length_nil, Option.toList_some, Option.toList_none, List.cons_append, List.nil_append, Value.category, true_and, k_0, k_1, k_2, k_3, k_4, false_implies, true_implies, reduceCtorEq, hS.1]
          have hZ' := okZ_loc (gs := Z.2.2.2.1) (dg := Z.2.2.2.2) h5 q (x := tN b L (tE b L k)) hv2 (q := decide (tW b L (tE b L (tE b L (tE b L k))) = nI 5))
          refine ⟨by decide, ⟨_, rfl⟩, (c_takeSemi hS (l4.mem (fun a ha => ?_) (DC_loc l4.2.2.2.1 q hnA hnS) hZ')).mono ?_⟩
          · rw [fs_u_ne (by omega), fs_u_ne (by omega), fs_u_ne (by omega), fs_u_ne (by omega)]
          intro r M' hr
          obtain ⟨x, rfl, hx⟩ := hr.z
          simp only [fi_const, fi_iload, fi_aload, fi_istore, fi_astore, fi_iinc, fi_bin, fi_div, fi_un, fi_dup, fi_dup2, fi_pop, fi_if, fi_cmp, fi_getf, fi_putf, fi_putr, fi_ald, fi_ast, fi_alen, fi_iret, fi_zret, fi_vret, fi_cut, fi_no, fi_s0, fi_s1, fi_s2, fi_s3, fi_s4, fi_v0, fi_v1, fi_v2, fi_v3, fi_v4, fi_v5, fi_n0, fi_n1, fi_n2, fi_mm, fi_stat, fi_alds, fi_tsw, List.getElem?_cons_zero, List.getElem?_cons_succ, List.set_cons_zero, List.set_cons_succ, List.length_cons, List.length_nil, Option.toList_some, Option.toList_none, List.cons_append, List.nil_append, Value.category, true_and, k_0, k_1, k_2, k_3, k_4, false_implies, true_implies, reduceCtorEq]
          refine ⟨hx, rdQ.tr ((lo13.tr (loC.tk f4)).tr ?_) hr⟩
          exact (((loC.u (by decide) (by decide)).tr (loC.u (by decide) (by decide))).tr (loC.u (by decide) (by decide))).tr (loC.u (by decide) (by decide))
        simp only [fi_const, fi_iload, fi_aload, fi_istore, fi_astore, fi_iinc, fi_bin, fi_div, fi_un, fi_dup, fi_dup2, fi_pop, fi_if, fi_cmp, fi_getf, fi_putf, fi_putr, fi_ald, fi_ast, fi_alen, fi_iret, fi_zret, fi_vret, fi_cut, fi_no, fi_s0, fi_s1, fi_s2, fi_s3, fi_s4, fi_v0, fi_v1, fi_v2, fi_v3, fi_v4, fi_v5, fi_n0, fi_n1, fi_n2, fi_mm, fi_stat, fi_alds, fi_tsw, List.getElem?_cons_zero, List.getElem?_cons_succ, List.set_cons_zero, List.set_cons_succ, List.length_cons, List.length_nil, Option.toList_some, Option.toList_none, List.cons_append, List.nil_append, Value.category, true_and, k_0, k_1, k_2, k_3, k_4, false_implies, true_implies, reduceCtorEq]
        refine S_X2_readLocation_47 ?_
        simp only [T_X2_readLocation_47, fi_const, fi_iload, fi_aload, fi_istore, fi_astore, fi_iinc, fi_bin, fi_div, fi_un, fi_dup, fi_dup2, fi_pop, fi_if, fi_cmp, fi_getf, fi_putf, fi_putr, fi_ald, fi_ast, fi_alen, fi_iret, fi_zret, fi_vret, fi_cut, fi_no, fi_s0, fi_s1, fi_s2, fi_s3, fi_s4, fi_v0, fi_v1, fi_v2, fi_v3, fi_v4, fi_v5, fi_n0, fi_n1, fi_n2, fi_mm, fi_stat, fi_alds, fi_tsw, List.getElem?_cons_zero, List.getElem?_cons_succ, List.set_cons_zero, List.set_cons_succ, List.length_cons, List.length_nil, Option.toList_some, Option.toList_none, List.cons_append, List.nil_append, Value.category, true_and, k_0, k_1, k_2, k_3, k_4, false_implies, true_implies, reduceCtorEq, hS.1]
        refine ⟨fun z => absurd z (nI_m1 (by omega)), fun _ => ⟨by decide, ⟨_, hS.2.1⟩, (c_isW hS l3.1 l3.2.1 l3.2.2.1 sr_11 (i := 5) (by decide) rfl).mono ?_⟩⟩
        rintro r M' ⟨rfl, rfl⟩
        simp only [fi_const, fi_iload, fi_aload, fi_istore, fi_astore, fi_iinc, fi_bin, fi_div, fi_un, fi_dup, fi_dup2, fi_pop, fi_if, fi_cmp, fi_getf, fi_putf, fi_putr, fi_ald, fi_ast, fi_alen, fi_iret, fi_zret, fi_vret, fi_cut, fi_no, fi_s0, fi_s1, fi_s2, fi_s3, fi_s4, fi_v0, fi_v1, fi_v2, fi_v3, fi_v4, fi_v5, fi_n0, fi_n1, fi_n2, fi_mm, fi_stat, fi_alds, fi_tsw, List.getElem?_cons_zero, List.getElem?_cons_succ, List.set_cons_zero, List.set_cons_succ, List.length_cons, List.length_nil, Option.toList_some, Option.toList_none, List.cons_append, List.nil_append, Value.category, true_and, k_0, k_1, k_2, k_3, k_4, false_implies, true_implies, reduceCtorEq, bI_eq0, decide_eq_false_iff_not, hS.1]
        refine ⟨fun y => ⟨by decide, ⟨_, hS.2.1⟩, (c_isW hS l3.1 l3.2.1 l3.2.2.1 sr_12 (i := 6) (by decide) rfl).mono ?_⟩, fun y => go _ (Or.inl (Decidable.byContradiction y)) rfl⟩
        rintro r M' ⟨rfl, rfl⟩
        simp only [fi_const, fi_iload, fi_aload, fi_istore, fi_astore, fi_iinc, fi_bin, fi_div, fi_un, fi_dup, fi_dup2, fi_pop, fi_if, fi_cmp, fi_getf, fi_putf, fi_putr, fi_ald, fi_ast, fi_alen, fi_iret, fi_zret, fi_vret, fi_cut, fi_no, fi_s0, fi_s1, fi_s2, fi_s3, fi_s4, fi_v0, fi_v1, fi_v2, fi_v3, fi_v4, fi_v5, fi_n0, fi_n1, fi_n2, fi_mm, fi_stat, fi_alds, fi_tsw, List.getElem?_cons_zero, List.getElem?_cons_succ, List.set_cons_zero, List.set_cons_succ, List.length_cons, List.length_nil, Option.toList_some, Option.toList_none, List.cons_append, List.nil_append, Value.category, true_and, k_0, k_1, k_2, k_3, k_4, false_implies, true_implies, reduceCtorEq, bI_eq0, decide_eq_false_iff_not, hS.1]
        refine ⟨fun y2 => ?_, fun y2 => go _ (Or.inr (Decidable.byContradiction y2)) rfl⟩
        rw [if_neg (fun z => by rcases z with z | z; exact y z; exact y2 z)]
        refine ⟨by decide, ⟨_, rfl⟩, (c_fail hS l3.2.2.1.2.1 (-11)).mono ?_⟩
        rintro r M' ⟨rfl, σ4, rfl, f1, f2⟩
        simp only [fi_const, fi_iload, fi_aload, fi_istore, fi_astore, fi_iinc, fi_bin, fi_div, fi_un, fi_dup, fi_dup2, fi_pop, fi_if, fi_cmp, fi_getf, fi_putf, fi_putr, fi_ald, fi_ast, fi_alen, fi_iret, fi_zret, fi_vret, fi_cut, fi_no, fi_s0, fi_s1, fi_s2, fi_s3, fi_s4, fi_v0, fi_v1, fi_v2, fi_v3, fi_v4, fi_v5, fi_n0, fi_n1, fi_n2, fi_mm, fi_stat, fi_alds, fi_tsw, List.getElem?_cons_zero, List.getElem?_cons_succ, List.set_cons_zero, List.set_cons_succ, List.length_cons, List.length_nil, Option.toList_some, Option.toList_none, List.cons_append, List.nil_append, Value.category, true_and, k_0, k_1, k_2, k_3, k_4, false_implies, true_implies, reduceCtorEq]
        exact ⟨Or.inl trivial, σ4, rfl, lo13.tr f1, rfl, f2⟩
  · rw [if_pos (by omega)]
    refine ⟨by decide, ⟨_, rfl⟩, (c_fail hS h3.2.1 (-17)).mono ?_⟩
    rintro r M' ⟨rfl, σ', rfl, f1, f2⟩
    simp only [fi_const, fi_iload, fi_aload, fi_istore, fi_astore, fi_iinc, fi_bin, fi_div, fi_un, fi_dup, fi_dup2, fi_pop, fi_if, fi_cmp, fi_getf, fi_putf, fi_putr, fi_ald, fi_ast, fi_alen, fi_iret, fi_zret, fi_vret, fi_cut, fi_no, fi_s0, fi_s1, fi_s2, fi_s3, fi_s4, fi_v0, fi_v1, fi_v2, fi_v3, fi_v4, fi_v5, fi_n0, fi_n1, fi_n2, fi_mm, fi_stat, fi_alds, fi_tsw, List.getElem?_cons_zero, List.getElem?_cons_succ, List.set_cons_zero, List.set_cons_succ, List.length_cons, List.length_nil, Option.toList_some, Option.toList_none, List.cons_append, List.nil_append, Value.category, true_and, k_0, k_1, k_2, k_3, k_4, false_implies, true_implies, reduceCtorEq]
    exact ⟨Or.inl trivial, σ', rfl, f1, rfl, f2⟩
end PL2
