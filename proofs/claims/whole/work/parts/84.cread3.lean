/-! ===== the loader of the class: settings, days ===== -/
theorem tI_of {b : Nat → Nat} {L k : Nat} : (∀ i, i < 4 → tW b L k = nI (8 + i) → tI b L k = some i) ∧ ((∀ i, i < 4 → ¬ tW b L k = nI (8 + i)) → tI b L k = none) := by
  unfold tI
  refine ⟨fun i hi e => ?_, fun h => ?_⟩
  · rw [e, nI_clamp (by omega), if_pos (by omega), show 8 + i - 8 = i by omega]
  · rcases tW_or b L k with w | ⟨i, hi, w⟩
    · rw [w]; decide
    · rw [w, nI_clamp (by omega)]
      by_cases q : 8 ≤ i
      · exact absurd w (by have := h (i - 8) (by omega); rw [show 8 + (i - 8) = i by omega] at this; exact this)
      · rw [if_neg q]
theorem tI_lt {b : Nat → Nat} {L k i : Nat} (h : tI b L k = some i) : i < 4 ∧ tW b L k = nI (8 + i) := by
  unfold tI at h
  rcases tW_or b L k with w | ⟨j, hj, w⟩
  · rw [w, if_neg (by decide)] at h; cases h
  · rw [w, nI_clamp (by omega)] at h
    by_cases q : 8 ≤ j
    · rw [if_pos q] at h; cases h; exact ⟨by omega, by rw [w, show 8 + (j - 8) = j by omega]⟩
    · rw [if_neg q] at h; cases h
theorem loS_ok : ∀ i, i < 4 → ([1, 0, 0, 1] : List Int32).getD i 0 = nI (loS i) ∧ ([99, 9999, 100, 12] : List Int32).getD i 0 = nI (hiS i) ∧ loS i < 100000 ∧ hiS i < 100000 := by decide +kernel
section PL4
variable {g : fs_G} {d : Nat} {S : List fs_Sh} {fr : Bool} {σ : Nat → Nat → Int32} {τ : Nat → Nat → Int64} {b : Nat → Nat} {L : Nat} {Z : Zt} {k : Nat}
theorem c_settingHere (hS : shL S) (h : LI σ b L Z k) : fs_Ct g m_X2_settingHere [.ref 26] ((S, fr), σ, τ) (fun r M' => r = some (.int (match tI b L k with | some i => nI i | none => -1)) ∧ ((S, fr), σ, τ) = M') := by
  obtain ⟨t1, t2⟩ := tI_of (b := b) (L := L) (k := k)
  refine fs_enterC (by decide) (by simp [fs_ok]) (Nat.le_of_ble_eq_true rfl) (fun d => S_X2_settingHere_0 ?_)
  show T_X2_settingHere_0 g d _ [.ref 26] [] _
  simp only [T_X2_settingHere_0, fi_const, fi_iload, fi_aload, fi_istore, fi_astore, fi_iinc, fi_bin, fi_div, fi_un, fi_dup, fi_dup2, fi_pop, fi_if, fi_cmp, fi_getf, fi_putf, fi_putr, fi_ald, fi_ast, fi_alen, fi_iret, fi_zret, fi_vret, fi_cut, fi_no, fi_s0, fi_s1, fi_s2, fi_s3, fi_s4, fi_v0, fi_v1, fi_v2, fi_v3, fi_v4, fi_v5, fi_n0, fi_n1, fi_n2, fi_mm, fi_stat, fi_alds, fi_tsw, List.getElem?_cons_zero, List.getElem?_cons_succ, List.set_cons_zero, List.set_cons_succ, List.length_cons, List.length_nil, Option.toList_some, Option.toList_none, List.cons_append, List.nil_append, Value.category, true_and, k_0, k_1, k_2, k_3, k_4, false_implies, true_implies, reduceCtorEq]
  simp only [fi_const, fi_iload, fi_aload, fi_istore, fi_astore, fi_iinc, fi_bin, fi_div, fi_un, fi_dup, fi_dup2, fi_pop, fi_if, fi_cmp, fi_getf, fi_putf, fi_putr, fi_ald, fi_ast, fi_alen, fi_iret, fi_zret, fi_vret, fi_cut, fi_no, fi_s0, fi_s1, fi_s2, fi_s3, fi_s4, fi_v0, fi_v1, fi_v2, fi_v3, fi_v4, fi_v5, fi_n0, fi_n1, fi_n2, fi_mm, fi_stat, fi_alds, fi_tsw, List.getElem?_cons_zero, List.getElem?_cons_succ, List.set_cons_zero, List.set_cons_succ, List.length_cons, List.length_nil, Option.toList_some, Option.toList_none, List.cons_append, List.nil_append, Value.category, true_and, k_0, k_1, k_2, k_3, k_4, false_implies, true_implies, reduceCtorEq, hS.1]
  refine ⟨by decide, ⟨_, hS.2.1⟩, (c_isW hS h.1 h.2.1 h.2.2.1 sr_17 (i := 8) (by decide) rfl).mono ?_⟩
  rintro r M' ⟨rfl, rfl⟩
  simp only [fi_const, fi_iload, fi_aload, fi_istore, fi_astore, fi_iinc, fi_bin, fi_div, fi_un, fi_dup, fi_dup2, fi_pop, fi_if, fi_cmp, fi_getf, fi_putf, fi_putr, fi_ald, fi_ast, fi_alen, fi_iret, fi_zret, fi_vret, fi_cut, fi_no, fi_s0, fi_s1, fi_s2, fi_s3, fi_s4, fi_v0, fi_v1, fi_v2, fi_v3, fi_v4, fi_v5, fi_n0, fi_n1, fi_n2, fi_mm, fi_stat, fi_alds, fi_tsw, List.getElem?_cons_zero, List.getElem?_cons_succ, List.set_cons_zero, List.set_cons_succ, List.length_cons, List.length_nil, Option.toList_some, Option.toList_none, List.cons_append, List.nil_append, Value.category, true_and, k_0, k_1, k_2, k_3, k_4, false_implies, true_implies, reduceCtorEq, bI_eq0, decide_eq_false_iff_not, hS.1]
  refine ⟨fun y0 => ⟨by decide, ⟨_, hS.2.1⟩, (c_isW hS h.1 h.2.1 h.2.2.1 sr_18 (i := 9) (by decide) rfl).mono ?_⟩, fun y => ⟨by rw [t1 0 (by decide) (Decidable.byContradiction y)]; rfl, trivial⟩⟩
  rintro r M' ⟨rfl, rfl⟩
  simp only [fi_const, fi_iload, fi_aload, fi_istore, fi_astore, fi_iinc, fi_bin, fi_div, fi_un, fi_dup, fi_dup2, fi_pop, fi_if, fi_cmp, fi_getf, fi_putf, fi_putr, fi_ald, fi_ast, fi_alen, fi_iret, fi_zret, fi_vret, fi_cut, fi_no, fi_s0, fi_s1, fi_s2, fi_s3, fi_s4, fi_v0, fi_v1, fi_v2, fi_v3, fi_v4, fi_v5, fi_n0, fi_n1, fi_n2, fi_mm, fi_stat, fi_alds, fi_tsw, List.getElem?_cons_zero, List.getElem?_cons_succ, List.set_cons_zero, List.set_cons_succ, List.length_cons, List.length_nil, Option.toList_some, Option.toList_none, List.cons_append, List.nil_append, Value.category, true_and, k_0, k_1, k_2, k_3, k_4, false_implies, true_implies, reduceCtorEq, bI_eq0, decide_eq_false_iff_not, hS.1]
  refine ⟨fun y1 => ⟨by decide, ⟨_, hS.2.1⟩, (c_isW hS h.1 h.2.1 h.2.2.1 sr_19 (i := 10) (by decide) rfl).mono ?_⟩, fun y => ⟨by rw [t1 1 (by decide) (Decidable.byContradiction y)]; rfl, trivial⟩⟩
  rintro r M' ⟨rfl, rfl⟩
  simp only [fi_const, fi_iload, fi_aload, fi_istore, fi_astore, fi_iinc, fi_bin, fi_div, fi_un, fi_dup, fi_dup2, fi_pop, fi_if, fi_cmp, fi_getf, fi_putf, fi_putr, fi_ald, fi_ast, fi_alen, fi_iret, fi_zret, fi_vret, fi_cut, fi_no, fi_s0, fi_s1, fi_s2, fi_s3, fi_s4, fi_v0, fi_v1, fi_v2, fi_v3, fi_v4, fi_v5, fi_n0, fi_n1, fi_n2, fi_mm, fi_stat, fi_alds, fi_tsw, List.getElem?_cons_zero, List.getElem?_cons_succ, List.set_cons_zero, List.set_cons_succ, List.length_cons, List.length_nil, Option.toList_some, Option.toList_none, List.cons_append, List.nil_append, Value.category, true_and, k_0, k_1, k_2, k_3, k_4, false_implies, true_implies, reduceCtorEq, bI_eq0, decide_eq_false_iff_not, hS.1]
  refine ⟨fun y2 => ⟨by decide, ⟨_, hS.2.1⟩, (c_isW hS h.1 h.2.1 h.2.2.1 sr_20 (i := 11) (by decide) rfl).mono ?_⟩, fun y => ⟨by rw [t1 2 (by decide) (Decidable.byContradiction y)]; rfl, trivial⟩⟩
  rintro r M' ⟨rfl, rfl⟩
  simp only [fi_const, fi_iload, fi_aload, fi_istore, fi_astore, fi_iinc, fi_bin, fi_div, fi_un, fi_dup, fi_dup2, fi_pop, fi_if, fi_cmp, fi_getf, fi_putf, fi_putr, fi_ald, fi_ast, fi_alen, fi_iret, fi_zret, fi_vret, fi_cut, fi_no, fi_s0, fi_s1, fi_s2, fi_s3, fi_s4, fi_v0, fi_v1, fi_v2, fi_v3, fi_v4, fi_v5, fi_n0, fi_n1, fi_n2, fi_mm, fi_stat, fi_alds, fi_tsw, List.getElem?_cons_zero, List.getElem?_cons_succ, List.set_cons_zero, List.set_cons_succ, List.length_cons, List.length_nil, Option.toList_some, Option.toList_none, List.cons_append, List.nil_append, Value.category, true_and, k_0, k_1, k_2, k_3, k_4, false_implies, true_implies, reduceCtorEq, bI_eq0, decide_eq_false_iff_not]
  refine ⟨fun y3 => ⟨?_, trivial⟩, fun y => ⟨by rw [t1 3 (by decide) (Decidable.byContradiction y)]; rfl, trivial⟩⟩
  rw [t2 (fun i hi z => ?_)]
  have : i = 0 ∨ i = 1 ∨ i = 2 ∨ i = 3 := by omega
  rcases this with rfl | rfl | rfl | rfl
  · exact y0 z
  · exact y1 z
  · exact y2 z
  · exact y3 z
theorem DC_set (h : DC σ Z) {i : Nat} {x gs : Int32} (h5 : σ 26 5 = gs) : DC (fs_u σ 38 i x) (Z.1, adN Z.2.1 i x, Z.2.2.1, gs, Z.2.2.2.2) ∨ 4 ≤ i := by
  by_cases hi : i < 4
  · refine Or.inl ?_
    obtain ⟨a1, a2, a3, a4, a5, a6, a7, a8, a9⟩ := h
    have c : ∀ a, a ≠ 38 → fs_u σ 38 i x a = σ a := fun a ha => fs_u_ne ha
    refine ⟨by rw [c 27 (by decide)]; exact a1, by rw [c 28 (by decide), c 29 (by decide), c 30 (by decide)]; exact a2, by rw [c 31 (by decide), c 32 (by decide)]; exact a3, by rw [c 33 (by decide), c 34 (by decide), c 35 (by decide), c 36 (by decide)]; exact a4, ?_, ?_, ?_, by rw [c 26 (by decide)]; exact h5, by rw [c 26 (by decide)]; exact a9⟩
    · intro j hj
      rw [c 37 (by decide), a5 j hj]
      show _ = adN _ _ _ (4 + j)
      unfold adN; rw [if_neg (by omega)]
    · intro j hj
      show _ = adN _ _ _ j
      unfold adN
      by_cases w : j = i
      · rw [w, u_eq, if_pos rfl]
      · simp only [fs_u]; rw [if_neg (fun z => w z.2), if_neg w]; exact a6 j hj
    · have a7' := a7
      unfold tab at a7' ⊢
      rw [c 37 (by decide), c (39 + 1) (by decide), c (39 + 2) (by decide), c (39 + 3) (by decide), c (39 + 4) (by decide), c (39 + 5) (by decide), c (27 + 6) (by decide), c (27 + 7) (by decide), c (27 + 8) (by decide), c (27 + 9) (by decide)]
      exact a7'
  · exact Or.inr (by omega)
theorem c_readSetting (hS : shL S) (h : LI σ b L Z k) : fs_Ct g m_X2_readSetting [.ref 26] ((S, fr), σ, τ) (rdQ S fr τ σ b L (pSem b L (sSet b L k Z))) := by
  obtain ⟨h1, h2, h3, h4, h5⟩ := id h
  have hP := hS.2.2.2.1
  refine fs_enterC (by decide) (by simp [fs_ok]) (Nat.le_of_ble_eq_true rfl) (fun d => S_X2_readSetting_0 ?_)
  show T_X2_readSetting_0 g d _ [.ref 26, .null, .null] [] _
  simp only [T_X2_readSetting_0, fi_const, fi_iload, fi_aload, fi_istore, fi_astore, fi_iinc, fi_bin, fi_div, fi_un, fi_dup, fi_dup2, fi_pop, fi_if, fi_cmp, fi_getf, fi_putf, fi_putr, fi_ald, fi_ast, fi_alen, fi_iret, fi_zret, fi_vret, fi_cut, fi_no, fi_s0, fi_s1, fi_s2, fi_s3, fi_s4, fi_v0, fi_v1, fi_v2, fi_v3, fi_v4, fi_v5, fi_n0, fi_n1, fi_n2, fi_mm, fi_stat, fi_alds, fi_tsw, List.getElem?_cons_zero, List.getElem?_cons_succ, List.set_cons_zero, List.set_cons_succ, List.length_cons, List.length_nil, Option.toList_some, Option.toList_none, List.cons_append, List.nil_append, Value.category, true_and, k_0, k_1, k_2, k_3, k_4, false_implies, true_implies, reduceCtorEq]
  simp only [fi_const, fi_iload, fi_aload, fi_istore, fi_astore, fi_iinc, fi_bin, fi_div, fi_un, fi_dup, fi_dup2, fi_pop, fi_if, fi_cmp, fi_getf, fi_putf, fi_putr, fi_ald, fi_ast, fi_alen, fi_iret, fi_zret, fi_vret, fi_cut, fi_no, fi_s0, fi_s1, fi_s2, fi_s3, fi_s4, fi_v0, fi_v1, fi_v2, fi_v3, fi_v4, fi_v5, fi_n0, fi_n1, fi_n2, fi_mm, fi_stat, fi_alds, fi_tsw, List.getElem?_cons_zero, List.getElem?_cons_succ, List.set_cons_zero, List.set_cons_succ, List.length_cons, List.length_nil, Option.toList_some, Option.toList_none, List.cons_append, List.nil_append, Value.category, true_and, k_0, k_1, k_2, k_3, k_4, false_implies, true_implies, reduceCtorEq, hS.1, h4.2.2.2.2.2.2.2.2, bI_eq0]
  unfold sSet
  refine ⟨fun q => ?_, fun q => ?_⟩
  · rw [if_neg (by rw [q]; decide)]
    refine ⟨by decide, ⟨_, hS.2.1⟩, (c_adv hS h).mono ?_⟩
    rintro r M' ⟨rfl, σ1, rfl, f1, l1⟩
    have lo1 := loC.tk f1
    simp only [fi_const, fi_iload, fi_aload, fi_istore, fi_astore, fi_iinc, fi_bin, fi_div, fi_un, fi_dup, fi_dup2, fi_pop, fi_if, fi_cmp, fi_getf, fi_putf, fi_putr, fi_ald, fi_ast, fi_alen, fi_iret, fi_zret, fi_vret, fi_cut, fi_no, fi_s0, fi_s1, fi_s2, fi_s3, fi_s4, fi_v0, fi_v1, fi_v2, fi_v3, fi_v4, fi_v5, fi_n0, fi_n1, fi_n2, fi_mm, fi_stat, fi_alds, fi_tsw, List.getElem?_cons_zero, List.getElem?_cons_succ, List.set_cons_zero, List.set_cons_succ, List.length_cons, List.length_nil, Option.toList_some, Option.toList_none, List.cons_append, List.nil_append, Value.category, true_and, k_0, k_1, k_2, k_3, k_4, false_implies, true_implies, reduceCtorEq, hS.1]
    refine ⟨by decide, ⟨_, rfl⟩, (c_settingHere hS l1).mono ?_⟩
    rintro r M' ⟨rfl, rfl⟩
    cases w : tI b L (tE b L k) with
    | none =>
      simp only [fi_const, fi_iload, fi_aload, fi_istore, fi_astore, fi_iinc, fi_bin, fi_div, fi_un, fi_dup, fi_dup2, fi_pop, fi_if, fi_cmp, fi_getf, fi_putf, fi_putr, fi_ald, fi_ast, fi_alen, fi_iret, fi_zret, fi_vret, fi_cut, fi_no, fi_s0, fi_s1, fi_s2, fi_s3, fi_s4, fi_v0, fi_v1, fi_v2, fi_v3, fi_v4, fi_v5, fi_n0, fi_n1, fi_n2, fi_mm, fi_stat, fi_alds, fi_tsw, List.getElem?_cons_zero, List.getElem?_cons_succ, List.set_cons_zero, List.set_cons_succ, List.length_cons, List.length_nil, Option.toList_some, Option.toList_none, List.cons_append, List.nil_append, Value.category, true_and, k_0, k_1, k_2, k_3, k_4, false_implies, true_implies, reduceCtorEq, hS.1]
      refine ⟨by decide, (c_isSettingC (-1)).mono ?_⟩
      rintro r M' ⟨rfl, rfl⟩
      rw [show seF (-1) = false from by decide]
      simp only [fi_const, fi_iload, fi_aload, fi_istore, fi_astore, fi_iinc, fi_bin, fi_div, fi_un, fi_dup, fi_dup2, fi_pop, fi_if, fi_cmp, fi_getf, fi_putf, fi_putr, fi_ald, fi_ast, fi_alen, fi_iret, fi_zret, fi_vret, fi_cut, fi_no, fi_s0, fi_s1, fi_s2, fi_s3, fi_s4, fi_v0, fi_v1, fi_v2, fi_v3, fi_v4, fi_v5, fi_n0, fi_n1, fi_n2, fi_mm, fi_stat, fi_alds, fi_tsw, List.getElem?_cons_zero, List.getElem?_cons_succ, List.set_cons_zero, List.set_cons_succ, List.length_cons, List.length_nil, Option.toList_some, Option.toList_none, List.cons_append, List.nil_append, Value.category, true_and, k_0, k_1, k_2, k_3, k_4, false_implies, true_implies, reduceCtorEq, bI_eq0, hS.1]
      refine ⟨?_, fun z => absurd trivial z⟩
      refine ⟨by decide, ⟨_, rfl⟩, (c_fail hS l1.2.2.1.2.1 (-11)).mono ?_⟩
      rintro r M' ⟨rfl, σ', rfl, f2, f3⟩
      simp only [fi_const, fi_iload, fi_aload, fi_istore, fi_astore, fi_iinc, fi_bin, fi_div, fi_un, fi_dup, fi_dup2, fi_pop, fi_if, fi_cmp, fi_getf, fi_putf, fi_putr, fi_ald, fi_ast, fi_alen, fi_iret, fi_zret, fi_vret, fi_cut, fi_no, fi_s0, fi_s1, fi_s2, fi_s3, fi_s4, fi_v0, fi_v1, fi_v2, fi_v3, fi_v4, fi_v5, fi_n0, fi_n1, fi_n2, fi_mm, fi_stat, fi_alds, fi_tsw, List.getElem?_cons_zero, List.getElem?_cons_succ, List.set_cons_zero, List.set_cons_succ, List.length_cons, List.length_nil, Option.toList_some, Option.toList_none, List.cons_append, List.nil_append, Value.category, true_and, k_0, k_1, k_2, k_3, k_4, false_implies, true_implies, reduceCtorEq]
      exact ⟨Or.inl trivial, σ', rfl, lo1.tr f2, rfl, f3⟩
    | some i =>
      obtain ⟨hi, -⟩ := tI_lt w
      obtain ⟨b1, b2, b3, b4⟩ := loS_ok i hi
      have hse : seF (nI i) = true := by
        unfold seF
        rw [decide_eq_false (nI_pos (by omega)), decide_eq_true (show nI i < 4 from nI_lt (b := 4) hi (by decide))]; rfl
      simp only [fi_const, fi_iload, fi_aload, fi_istore, fi_astore, fi_iinc, fi_bin, fi_div, fi_un, fi_dup, fi_dup2, fi_pop, fi_if, fi_cmp, fi_getf, fi_putf, fi_putr, fi_ald, fi_ast, fi_alen, fi_iret, fi_zret, fi_vret, fi_cut, fi_no, fi_s0, fi_s1, fi_s2, fi_s3, fi_s4, fi_v0, fi_v1, fi_v2, fi_v3, fi_v4, fi_v5, fi_n0, fi_n1, fi_n2, fi_mm, fi_stat, fi_alds, fi_tsw, List.getElem?_cons_zero, List.getElem?_cons_succ, List.set_cons_zero, List.set_cons_succ, List.length_cons, List.length_nil, Option.toList_some, Option.toList_none, List.cons_append, List.nil_append, Value.category, true_and, k_0, k_1, k_2, k_3, k_4, false_implies, true_implies, reduceCtorEq, hS.1]
      refine ⟨by decide, (c_isSettingC (nI i)).mono ?_⟩
      rintro r M' ⟨rfl, rfl⟩
      rw [hse]
      simp only [fi_const, fi_iload, fi_aload, fi_istore, fi_astore, fi_iinc, fi_bin, fi_div, fi_un, fi_dup, fi_dup2, fi_pop, fi_if, fi_cmp, fi_getf, fi_putf, fi_putr, fi_ald, fi_ast, fi_alen, fi_iret, fi_zret, fi_vret, fi_cut, fi_no, fi_s0, fi_s1, fi_s2, fi_s3, fi_s4, fi_v0, fi_v1, fi_v2, fi_v3, fi_v4, fi_v5, fi_n0, fi_n1, fi_n2, fi_mm, fi_stat, fi_alds, fi_tsw, List.getElem?_cons_zero, List.getElem?_cons_succ, List.set_cons_zero, List.set_cons_succ, List.length_cons, List.length_nil, Option.toList_some, Option.toList_none, List.cons_append, List.nil_append, Value.category, true_and, k_0, k_1, k_2, k_3, k_4, false_implies, true_implies, reduceCtorEq, bI_eq0, hS.1]
      refine fun _ => ⟨by decide, (c_has (σ1 26 5) (show i < 32 by omega)).mono ?_⟩
      rintro r M' ⟨rfl, rfl⟩
      have e5 : σ1 26 5 = Z.2.2.2.1 := l1.2.2.2.1.2.2.2.2.2.2.2.1
      rw [e5]
      simp only [fi_const, fi_iload, fi_aload, fi_istore, fi_astore, fi_iinc, fi_bin, fi_div, fi_un, fi_dup, fi_dup2, fi_pop, fi_if, fi_cmp, fi_getf, fi_putf, fi_putr, fi_ald, fi_ast, fi_alen, fi_iret, fi_zret, fi_vret, fi_cut, fi_no, fi_s0, fi_s1, fi_s2, fi_s3, fi_s4, fi_v0, fi_v1, fi_v2, fi_v3, fi_v4, fi_v5, fi_n0, fi_n1, fi_n2, fi_mm, fi_stat, fi_alds, fi_tsw, List.getElem?_cons_zero, List.getElem?_cons_succ, List.set_cons_zero, List.set_cons_succ, List.length_cons, List.length_nil, Option.toList_some, Option.toList_none, List.cons_append, List.nil_append, Value.category, true_and, k_0, k_1, k_2, k_3, k_4, false_implies, true_implies, reduceCtorEq, bI_eq0, hS.1, e5]
      refine ⟨fun q2 => ?_, fun q2 => ?_⟩
      · rw [if_neg (by rw [q2]; decide)]
        have l1' : LI (fs_u σ1 26 5 (Z.2.2.2.1 ||| 1 <<< (nI i &&& 31))) b L (Z.1, Z.2.1, Z.2.2.1, Z.2.2.2.1 ||| 1 <<< (nI i &&& 31), Z.2.2.2.2) (tE b L k) := by
          refine l1.mem (fun a ha => fs_u_ne (by omega)) ?_ h5
          obtain ⟨a1, a2, a3, a4, a5, a6, a7, a8, a9⟩ := l1.2.2.2.1
          have c : ∀ a, a ≠ 26 → fs_u σ1 26 5 (Z.2.2.2.1 ||| 1 <<< (nI i &&& 31)) a = σ1 a := fun a ha => fs_u_ne ha
          refine ⟨by rw [c 27 (by decide)]; exact a1, by rw [c 28 (by decide), c 29 (by decide), c 30 (by decide)]; exact a2, by rw [c 31 (by decide), c 32 (by decide)]; exact a3, by rw [c 33 (by decide), c 34 (by decide), c 35 (by decide), c 36 (by decide)]; exact a4, by rw [c 37 (by decide)]; exact a5, by rw [c 38 (by decide)]; exact a6, tab_keep a7 (fun a h1 h2 => c a (by omega)), u_eq .., ?_⟩
          simp only [fs_u]; rw [if_neg (by decide)]; exact a9
        refine ⟨by decide, ⟨_, hS.2.1⟩, (c_adv hS l1').mono ?_⟩
        rintro r M' ⟨rfl, σ2, rfl, f2, l2⟩
        have lo2 := (lo1.tr (loC.u (a := 26) (c := 5) (x := Z.2.2.2.1 ||| 1 <<< (nI i &&& 31)) (by decide) (by decide))).tr (loC.tk f2)
        simp only [fi_const, fi_iload, fi_aload, fi_istore, fi_astore, fi_iinc, fi_bin, fi_div, fi_un, fi_dup, fi_dup2, fi_pop, fi_if, fi_cmp, fi_getf, fi_putf, fi_putr, fi_ald, fi_ast, fi_alen, fi_iret, fi_zret, fi_vret, fi_cut, fi_no, fi_s0, fi_s1, fi_s2, fi_s3, fi_s4, fi_v0, fi_v1, fi_v2, fi_v3, fi_v4, fi_v5, fi_n0, fi_n1, fi_n2, fi_mm, fi_stat, fi_alds, fi_tsw, List.getElem?_cons_zero, List.getElem?_cons_succ, List.set_cons_zero, List.set_cons_succ, List.length_cons, List.length_nil, Option.toList_some, Option.toList_none, List.cons_append, List.nil_append, Value.category, true_and, k_0, k_1, k_2, k_3, k_4, false_implies, true_implies, reduceCtorEq, nI_clamp (show i < 2 ^ 31 by omega), b1, b2]
        refine ⟨vp_in_nI hi (by decide), vp_in_nI hi (by decide), by decide, ⟨_, hS.1⟩, (c_takeInteger hS l2 b3 b4).mono ?_⟩
        rintro r M' ⟨σ3, rfl, lo3, hm⟩
        have lo13 := lo2.tr lo3
        cases w2 : eInt b L (loS i) (hiS i) (tE b L (tE b L k)) with
        | some e =>
          rw [w2] at hm
          obtain ⟨rfl, he⟩ := hm
          simp only [fi_const, fi_iload, fi_aload, fi_istore, fi_astore, fi_iinc, fi_bin, fi_div, fi_un, fi_dup, fi_dup2, fi_pop, fi_if, fi_cmp, fi_getf, fi_putf, fi_putr, fi_ald, fi_ast, fi_alen, fi_iret, fi_zret, fi_vret, fi_cut, fi_no, fi_s0, fi_s1, fi_s2, fi_s3, fi_s4, fi_v0, fi_v1, fi_v2, fi_v3, fi_v4, fi_v5, fi_n0, fi_n1, fi_n2, fi_mm, fi_stat, fi_alds, fi_tsw, List.getElem?_cons_zero, List.getElem?_cons_succ, List.set_cons_zero, List.set_cons_succ, List.length_cons, List.length_nil, Option.toList_some, Option.toList_none, List.cons_append, List.nil_append, Value.category, true_and, k_0, k_1, k_2, k_3, k_4, false_implies, true_implies, reduceCtorEq]
          refine ⟨?_, fun z => absurd trivial z⟩
          exact ⟨Or.inl trivial, σ3, rfl, lo13, rfl, he⟩
        | none =>
          rw [w2] at hm
          obtain ⟨rfl, l3⟩ := hm
          obtain ⟨-, hv1, hv2⟩ := eInt_none w2
          have i4 : vp_in (nI i) 4 := vp_in_nI hi (by decide)
          simp only [fi_const, fi_iload, fi_aload, fi_istore, fi_astore, fi_iinc, fi_bin, fi_div, fi_un, fi_dup, fi_dup2, fi_pop, fi_if, fi_cmp, fi_getf, fi_putf, fi_putr, fi_ald, fi_ast, fi_alen, fi_iret, fi_zret, fi_vret, fi_cut, fi_no, fi_s0, fi_s1, fi_s2, fi_s3, fi_s4, fi_v0, fi_v1, fi_v2, fi_v3, fi_v4, fi_v5, fi_n0, fi_n1, fi_n2, fi_mm, fi_stat, fi_alds, fi_tsw, List.getElem?_cons_zero, List.getElem?_cons_succ, List.set_cons_zero, List.set_cons_succ, List.length_cons, List.length_nil, Option.toList_some, Option.toList_none, List.cons_append, List.nil_append, Value.category, true_and, k_0, k_1, k_2, k_3, k_4, false_implies, true_implies, reduceCtorEq, hS.1, hP.1, hP.2.2.2.2.2.2.2.2.2.2.2, i4, nI_clamp (show i < 2 ^ 31 by omega), nar_int, show 27 + 11 = 38 from rfl]
          refine ⟨fun z => absurd z (nI_m1 (by omega)), fun _ => ?_⟩
          have hZ' := okZ_set (gs := Z.2.2.2.1) (dg := Z.2.2.2.2) h5 hi hv1 hv2 (gs' := Z.2.2.2.1 ||| 1 <<< (nI i &&& 31))
          have hD' : DC (fs_u σ3 38 i (nI (tV b L (tE b L (tE b L k))))) (Z.1, adN Z.2.1 i (nI (tV b L (tE b L (tE b L k)))), Z.2.2.1, Z.2.2.2.1 ||| 1 <<< (nI i &&& 31), Z.2.2.2.2) := (DC_set l3.2.2.2.1 (l3.2.2.2.1.2.2.2.2.2.2.2.1)).resolve_right (by omega)
          refine ⟨by decide, ⟨_, rfl⟩, (c_takeSemi hS (l3.mem (fun a ha => fs_u_ne (by omega)) hD' hZ')).mono ?_⟩
          intro r M' hr
          obtain ⟨x, rfl, hx⟩ := hr.z
          simp only [fi_const, fi_iload, fi_aload, fi_istore, fi_astore, fi_iinc, fi_bin, fi_div, fi_un, fi_dup, fi_dup2, fi_pop, fi_if, fi_cmp, fi_getf, fi_putf, fi_putr, fi_ald, fi_ast, fi_alen, fi_iret, fi_zret, fi_vret, fi_cut, fi_no, fi_s0, fi_s1, fi_s2, fi_s3, fi_s4, fi_v0, fi_v1, fi_v2, fi_v3, fi_v4, fi_v5, fi_n0, fi_n1, fi_n2, fi_mm, fi_stat, fi_alds, fi_tsw, List.getElem?_cons_zero, List.getElem?_cons_succ, List.set_cons_zero, List.set_cons_succ, List.length_cons, List.length_nil, Option.toList_some, Option.toList_none, List.cons_append, List.nil_append, Value.category, true_and, k_0, k_1, k_2, k_3, k_4, false_implies, true_implies, reduceCtorEq]
          exact ⟨hx, rdQ.tr (lo13.tr (loC.u (by decide) (by decide))) hr⟩
      · have q2' : bt Z.2.2.2.1 i = true := by cases v : bt Z.2.2.2.1 i; exact absurd v q2; rfl
        rw [if_pos q2']
        refine ⟨by decide, ⟨_, rfl⟩, (c_fail hS l1.2.2.1.2.1 (-14)).mono ?_⟩
        rintro r M' ⟨rfl, σ', rfl, f2, f3⟩
        simp only [fi_const, fi_iload, fi_aload, fi_istore, fi_astore, fi_iinc, fi_bin, fi_div, fi_un, fi_dup, fi_dup2, fi_pop, fi_if, fi_cmp, fi_getf, fi_putf, fi_putr, fi_ald, fi_ast, fi_alen, fi_iret, fi_zret, fi_vret, fi_cut, fi_no, fi_s0, fi_s1, fi_s2, fi_s3, fi_s4, fi_v0, fi_v1, fi_v2, fi_v3, fi_v4, fi_v5, fi_n0, fi_n1, fi_n2, fi_mm, fi_stat, fi_alds, fi_tsw, List.getElem?_cons_zero, List.getElem?_cons_succ, List.set_cons_zero, List.set_cons_succ, List.length_cons, List.length_nil, Option.toList_some, Option.toList_none, List.cons_append, List.nil_append, Value.category, true_and, k_0, k_1, k_2, k_3, k_4, false_implies, true_implies, reduceCtorEq]
        exact ⟨Or.inl trivial, σ', rfl, lo1.tr f2, rfl, f3⟩
  · have q' : Z.2.2.2.2 = true := by cases v : Z.2.2.2.2; exact absurd v q; rfl
    rw [if_pos q']
    refine ⟨by decide, ⟨_, rfl⟩, (c_fail hS h3.2.1 (-15)).mono ?_⟩
    rintro r M' ⟨rfl, σ', rfl, f1, f2⟩
    simp only [fi_const, fi_iload, fi_aload, fi_istore, fi_astore, fi_iinc, fi_bin, fi_div, fi_un, fi_dup, fi_dup2, fi_pop, fi_if, fi_cmp, fi_getf, fi_putf, fi_putr, fi_ald, fi_ast, fi_alen, fi_iret, fi_zret, fi_vret, fi_cut, fi_no, fi_s0, fi_s1, fi_s2, fi_s3, fi_s4, fi_v0, fi_v1, fi_v2, fi_v3, fi_v4, fi_v5, fi_n0, fi_n1, fi_n2, fi_mm, fi_stat, fi_alds, fi_tsw, List.getElem?_cons_zero, List.getElem?_cons_succ, List.set_cons_zero, List.set_cons_succ, List.length_cons, List.length_nil, Option.toList_some, Option.toList_none, List.cons_append, List.nil_append, Value.category, true_and, k_0, k_1, k_2, k_3, k_4, false_implies, true_implies, reduceCtorEq]
    exact ⟨Or.inl trivial, σ', rfl, f1, rfl, f2⟩
theorem dyA_id {dy : Nat → Int32} {k : Nat} {x : Int32} (h : dy k = x) : dyA dy k x = dy := by
  funext j; unfold dyA; split
  · rename_i e; rw [e, h]
  · rfl
theorem tab.shows {t p n : Nat} {dy : Nat → Int32} (h : tab σ t p dy n) (hc : cons dy (σ (p + 6)) (σ (p + 8)) n) : shows σ t p dy n := by
  intro e he
  obtain ⟨t1, t2, t3, t4, t5⟩ := h e he
  obtain ⟨p1, p2⟩ := loF_pl hc he
  exact ⟨t1, t2.trans p1.symm, t3.trans p2.symm, t4, t5⟩
def scQ (S : List fs_Sh) (fr : Bool) (τ : Nat → Nat → Int64) (σ : Nat → Nat → Int32) (b : Nat → Nat) (L : Nat) (o : Option Er) (Z : Zt) (k' : Nat) : Option Value → fs_M → Prop := fun r M' => ∃ σ', M' = ((S, fr), σ', τ) ∧ loC σ σ' ∧ (match o with | some e => r = some (.int 0) ∧ ER σ' e | none => r = some (.int 1) ∧ LI σ' b L Z k')
theorem c_takeScene (hS : shL S) (h : LI σ b L Z k) {e : Nat} (he : e < 12) : fs_Ct g m_X2_takeSceneOf [.ref 26, .int (nI e)] ((S, fr), σ, τ) (scQ S fr τ σ b L (eScn b L Z.1 Z.2.2.1.2.2 e k Z.2.1) (Z.1, nwN Z.2.1 (tV b L k) (nI e), Z.2.2.1, Z.2.2.2.1, Z.2.2.2.2) (tE b L k)) := by
  obtain ⟨h1, h2, h3, h4, h5⟩ := id h
  have hP := hS.2.2.2.1
  have hD := hS.2.2.2.2
  have hnS := h5.1.2.2.2.2.2.1
  have hk4 := tK_le b L k
  have hv := tV_le b L k
  obtain ⟨a1, a2, a3, a4, a5, a6, a7, a8, a9⟩ := id h4
  have fail : ∀ (σ1 : Nat → Nat → Int32) (c : Int32), σ1 45 1 = nI (tS b L k) → loC σ σ1 → fs_Ct g m_X2_fail [.ref 26, .int c] ((S, fr), σ1, τ) (fun r M' => ∃ x, r = some (.int x) ∧ (x = 0 ∨ x = 1) ∧ scQ S fr τ σ b L (some (c, tS b L k)) (Z.1, nwN Z.2.1 (tV b L k) (nI e), Z.2.2.1, Z.2.2.2.1, Z.2.2.2.2) (tE b L k) (some (.int x)) M') := by
    intro σ1 c e1 lo
    refine (c_fail hS e1 c).mono ?_
    rintro r M' ⟨rfl, σ', rfl, f1, f2⟩
    exact ⟨_, rfl, Or.inl rfl, σ', rfl, lo.tr f1, rfl, f2⟩
  refine fs_enterC (by decide) (by simp [fs_ok]) (Nat.le_of_ble_eq_true rfl) (fun d => S_X2_takeSceneOf_0 ?_)
  show T_X2_takeSceneOf_0 g d _ [.ref 26, .int (nI e), .null] [] _
  simp only [T_X2_takeSceneOf_0, fi_const, fi_iload, fi_aload, fi_istore, fi_astore, fi_iinc, fi_bin, fi_div, fi_un, fi_dup, fi_dup2, fi_pop, fi_if, fi_cmp, fi_getf, fi_putf, fi_putr, fi_ald, fi_ast, fi_alen, fi_iret, fi_zret, fi_vret, fi_cut, fi_no, fi_s0, fi_s1, fi_s2, fi_s3, fi_s4, fi_v0, fi_v1, fi_v2, fi_v3, fi_v4, fi_v5, fi_n0, fi_n1, fi_n2, fi_mm, fi_stat, fi_alds, fi_tsw, List.getElem?_cons_zero, List.getElem?_cons_succ, List.set_cons_zero, List.set_cons_succ, List.length_cons, List.length_nil, Option.toList_some, Option.toList_none, List.cons_append, List.nil_append, Value.category, true_and, k_0, k_1, k_2, k_3, k_4, false_implies, true_implies, reduceCtorEq]
  simp only [fi_const, fi_iload, fi_aload, fi_istore, fi_astore, fi_iinc, fi_bin, fi_div, fi_un, fi_dup, fi_dup2, fi_pop, fi_if, fi_cmp, fi_getf, fi_putf, fi_putr, fi_ald, fi_ast, fi_alen, fi_iret, fi_zret, fi_vret, fi_cut, fi_no, fi_s0, fi_s1, fi_s2, fi_s3, fi_s4, fi_v0, fi_v1, fi_v2, fi_v3, fi_v4, fi_v5, fi_n0, fi_n1, fi_n2, fi_mm, fi_stat, fi_alds, fi_tsw, List.getElem?_cons_zero, List.getElem?_cons_succ, List.set_cons_zero, List.set_cons_succ, List.length_cons, List.length_nil, Option.toList_some, Option.toList_none, List.cons_append, List.nil_append, Value.category, true_and, k_0, k_1, k_2, k_3, k_4, false_implies, true_implies, reduceCtorEq, hS.1, hS.2.1, h3.1]
  unfold eScn
  refine pk_eq (tK b L k) 2 (fun q => ?_) (fun q => ?_)
  · rw [if_pos q, h3.2.2.2 q]
    have hc : (if tV b L k ≤ 100000 then tV b L k else 100000) < 2 ^ 31 := by split <;> omega
    simp only [hP.1, fi_const, fi_iload, fi_aload, fi_istore, fi_astore, fi_iinc, fi_bin, fi_div, fi_un, fi_dup, fi_dup2, fi_pop, fi_if, fi_cmp, fi_getf, fi_putf, fi_putr, fi_ald, fi_ast, fi_alen, fi_iret, fi_zret, fi_vret, fi_cut, fi_no, fi_s0, fi_s1, fi_s2, fi_s3, fi_s4, fi_v0, fi_v1, fi_v2, fi_v3, fi_v4, fi_v5, fi_n0, fi_n1, fi_n2, fi_mm, fi_stat, fi_alds, fi_tsw, List.getElem?_cons_zero, List.getElem?_cons_succ, List.set_cons_zero, List.set_cons_succ, List.length_cons, List.length_nil, Option.toList_some, Option.toList_none, List.cons_append, List.nil_append, Value.category, true_and, k_0, k_1, k_2, k_3, k_4, false_implies, true_implies, reduceCtorEq, a1.2.2]
    refine ⟨fun z => absurd z (nI_pos hc), fun _ => pk_lt (if tV b L k ≤ 100000 then tV b L k else 100000) Z.2.2.1.2.2 (fun w => ?_) (fun w => ?_)⟩
    · have hle : tV b L k ≤ 100000 := by split at w <;> omega
      rw [if_pos hle] at w
      rw [if_pos hle, if_neg (show ¬ Z.2.2.1.2.2 ≤ tV b L k by omega)]
      have i14 : vp_in (nI (tV b L k)) 14 := vp_in_nI (by omega) (by decide)
      have e37 := a5 (tV b L k) (by omega)
      simp only [hP.2.2.2.2.2.2.2.2.2.2.1, fi_const, fi_iload, fi_aload, fi_istore, fi_astore, fi_iinc, fi_bin, fi_div, fi_un, fi_dup, fi_dup2, fi_pop, fi_if, fi_cmp, fi_getf, fi_putf, fi_putr, fi_ald, fi_ast, fi_alen, fi_iret, fi_zret, fi_vret, fi_cut, fi_no, fi_s0, fi_s1, fi_s2, fi_s3, fi_s4, fi_v0, fi_v1, fi_v2, fi_v3, fi_v4, fi_v5, fi_n0, fi_n1, fi_n2, fi_mm, fi_stat, fi_alds, fi_tsw, List.getElem?_cons_zero, List.getElem?_cons_succ, List.set_cons_zero, List.set_cons_succ, List.length_cons, List.length_nil, Option.toList_some, Option.toList_none, List.cons_append, List.nil_append, Value.category, true_and, k_0, k_1, k_2, k_3, k_4, false_implies, true_implies, reduceCtorEq, i14, nI_clamp (show tV b L k < 2 ^ 31 by omega), show 27 + 10 = 37 from rfl, e37]
      refine ⟨fun q2 => ?_, fun q2 => ?_⟩
      · rw [if_pos q2]
        have b4 := a4 (tV b L k) w
        obtain ⟨hT, hN⟩ := id h5
        have h01 : b01 (fr_ Z.1 52) Z.2.2.1.2.2 := by have := hT.2.2.2.2.2.2.2.1; simp only [v_ni, zV_2] at this; exact this
        have hco : cons (fr_ Z.2.1 4) (fr_ Z.1 24) (fr_ Z.1 52) Z.2.2.1.2.2 := by have := hN.2.2.2.2.2.1; simp only [v_lo, v_ni, zV_2] at this; exact this
        have hre : rested (fr_ Z.2.1 4) (fr_ Z.1 52) (fr_ Z.1 66) Z.2.2.1.2.2 := by have := hN.2.2.2.2.2.2; simp only [v_ca, v_ni, zV_2] at this; exact this
        have hdy : ∀ j, j < Z.2.2.1.2.2 → σ 37 j = fr_ Z.2.1 4 j := fun j hj => a5 j (by omega)
        have hco' : cons (σ 37) (σ 33) (σ 35) Z.2.2.1.2.2 := by
          intro i j f hi hj hf x1 x2
          rw [hdy i hi] at x1
          rw [hdy j hj] at x2
          rw [(a4 i hi).1, (a4 j hj).1, (a4 i hi).2.2.1, (a4 j hj).2.2.1]
          exact hco i j f hi hj hf x1 x2
        have hsh : shows σ 39 27 (σ 37) Z.2.2.1.2.2 := tab.shows a7 hco'
        have er : rsF (σ (39 + 1)) (σ (39 + 2)) (σ (39 + 3)) (σ (39 + 4)) (σ (39 + 5)) (σ (27 + 6) (tV b L k)) (σ (27 + 8) (tV b L k)) (σ (27 + 7) (tV b L k)) (σ (27 + 9) (tV b L k)) (σ (27 + 11) 0) e = reP Z.1 Z.2.1 Z.2.2.1.2.2 (tV b L k) e := by
          unfold reP
          rw [← re_rm hnS w he h01 hco hre, dyA_id (show fr_ Z.2.1 4 (tV b L k) = -1 from q2), show σ (27 + 11) 0 = Z.2.1 0 from a6 0 (by decide)]
          refine Eq.trans ?_ (reF_congr hdy (fun j hj => ⟨(a4 j hj).1, (a4 j hj).2.2.1, (a4 j hj).2.1, (a4 j hj).2.2.2⟩) w he)
          · unfold reF
            exact rsF_congr hsh he
        refine ⟨by decide, ⟨_, hD.1⟩, (c_reasonAgainst hD hP (show tV b L k < 14 by omega) he).mono ?_⟩
        rintro r M' ⟨rfl, rfl⟩
        rw [er]
        simp only [fi_const, fi_iload, fi_aload, fi_istore, fi_astore, fi_iinc, fi_bin, fi_div, fi_un, fi_dup, fi_dup2, fi_pop, fi_if, fi_cmp, fi_getf, fi_putf, fi_putr, fi_ald, fi_ast, fi_alen, fi_iret, fi_zret, fi_vret, fi_cut, fi_no, fi_s0, fi_s1, fi_s2, fi_s3, fi_s4, fi_v0, fi_v1, fi_v2, fi_v3, fi_v4, fi_v5, fi_n0, fi_n1, fi_n2, fi_mm, fi_stat, fi_alds, fi_tsw, List.getElem?_cons_zero, List.getElem?_cons_succ, List.set_cons_zero, List.set_cons_succ, List.length_cons, List.length_nil, Option.toList_some, Option.toList_none, List.cons_append, List.nil_append, Value.category, true_and, k_0, k_1, k_2, k_3, k_4, false_implies, true_implies, reduceCtorEq, hS.1, hP.1]
        refine ⟨fun q3 => ?_, fun q3 => ?_⟩
        · rw [if_pos q3]
          simp only [hP.2.2.2.2.2.2.2.2.2.2.1, fi_const, fi_iload, fi_aload, fi_istore, fi_astore, fi_iinc, fi_bin, fi_div, fi_un, fi_dup, fi_dup2, fi_pop, fi_if, fi_cmp, fi_getf, fi_putf, fi_putr, fi_ald, fi_ast, fi_alen, fi_iret, fi_zret, fi_vret, fi_cut, fi_no, fi_s0, fi_s1, fi_s2, fi_s3, fi_s4, fi_v0, fi_v1, fi_v2, fi_v3, fi_v4, fi_v5, fi_n0, fi_n1, fi_n2, fi_mm, fi_stat, fi_alds, fi_tsw, List.getElem?_cons_zero, List.getElem?_cons_succ, List.set_cons_zero, List.set_cons_succ, List.length_cons, List.length_nil, Option.toList_some, Option.toList_none, List.cons_append, List.nil_append, Value.category, true_and, k_0, k_1, k_2, k_3, k_4, false_implies, true_implies, reduceCtorEq, i14, nI_clamp (show tV b L k < 2 ^ 31 by omega), show 27 + 10 = 37 from rfl, nar_int, hS.1]
          have hZ' := okZ_day (gs := Z.2.2.2.1) (dg := Z.2.2.2.2) h5 w he q3 (dg' := Z.2.2.2.2)
          have c2 : ∀ a, a ≠ 37 → fs_u σ 37 (tV b L k) (nI e) a = σ a := fun a ha => fs_u_ne ha
          have e2 : fs_u σ 37 (tV b L k) (nI e) 37 = dyA (σ 37) (tV b L k) (nI e) := by funext j; simp only [fs_u, dyA]; simp
          refine ⟨by decide, ⟨_, hD.1⟩, (c_addScene hD hP (by decide) (show tV b L k < 14 by omega) (nI e) (by rw [c2 (27 + 8) (by decide), show σ (27 + 8) (tV b L k) = _ from b4.2.2.1]; exact h01 _ w)).mono ?_⟩
          rintro r M' ⟨rfl, σ3, rfl, s3, p3⟩
          have c3 : ∀ a, a ≠ 37 → ¬ (39 < a ∧ a < 45) → σ3 a = σ a := fun a h1 h2 => by rw [s3 a h2, c2 a h1]
          have hcm : cons (dyA (σ 37) (tV b L k) (nI e)) (σ 33) (σ 35) Z.2.2.1.2.2 := by
            have hc0 := hZ'.2.2.2.2.2.2.1
            simp only [v_lo, v_ni, zV_2, fr_nw] at hc0
            intro i j f hi hj hf x1 x2
            rw [(a4 i hi).1, (a4 j hj).1, (a4 i hi).2.2.1, (a4 j hj).2.2.1]
            refine hc0 i j f hi hj hf ?_ ?_
            · rw [← x1]; simp only [dyA]; rw [hdy i hi]
            · rw [← x2]; simp only [dyA]; rw [hdy j hj]
          have ht : tab σ3 39 27 (dyA (σ 37) (tV b L k) (nI e)) Z.2.2.1.2.2 := by
            refine tab_move (σ := fs_u σ 37 (tV b L k) (nI e)) (σ1 := fs_u σ 37 (tV b L k) (nI e)) hnS w he (by decide) same.rf s3 ?_ ?_ p3
            · rw [c2 (27 + 6) (by decide), c2 (27 + 8) (by decide)]; exact hcm
            · rw [dyA_id (show σ 37 (tV b L k) = -1 from e37.trans q2)]
              intro f hf
              have := hsh f hf
              rw [c2 (39 + 1) (by decide), c2 (39 + 2) (by decide), c2 (39 + 3) (by decide), c2 (39 + 4) (by decide), c2 (39 + 5) (by decide), c2 (27 + 6) (by decide), c2 (27 + 7) (by decide), c2 (27 + 8) (by decide), c2 (27 + 9) (by decide)]
              exact this
          have e3 : σ3 37 = dyA (σ 37) (tV b L k) (nI e) := by rw [s3 37 (by unfold inT; omega), e2]
          have hD' : DC σ3 (Z.1, nwN Z.2.1 (tV b L k) (nI e), Z.2.2.1, Z.2.2.2.1, Z.2.2.2.2) := by
            refine ⟨by rw [c3 27 (by decide) (by omega)]; exact a1, by rw [c3 28 (by decide) (by omega), c3 29 (by decide) (by omega), c3 30 (by decide) (by omega)]; exact a2, by rw [c3 31 (by decide) (by omega), c3 32 (by decide) (by omega)]; exact a3, by rw [c3 33 (by decide) (by omega), c3 34 (by decide) (by omega), c3 35 (by decide) (by omega), c3 36 (by decide) (by omega)]; exact a4, fun j hj => ?_, fun i hi => ?_, by rw [e3]; exact ht, by rw [c3 26 (by decide) (by omega)]; exact a8, by rw [c3 26 (by decide) (by omega)]; exact a9⟩
            · rw [e3]
              show dyA (σ 37) (tV b L k) (nI e) j = nwN Z.2.1 (tV b L k) (nI e) (4 + j)
              unfold dyA nwN
              by_cases y : j = tV b L k
              · rw [if_pos y, if_pos (by omega)]
              · rw [if_neg y, if_neg (by omega)]; exact a5 j hj
            · rw [c3 38 (by decide) (by omega), a6 i hi]
              show _ = nwN Z.2.1 (tV b L k) (nI e) i
              unfold nwN; rw [if_neg (by omega)]
          have l3 := h.mem (σ' := σ3) (fun a ha => c3 a (by omega) (by omega)) hD' hZ'
          simp only [fi_const, fi_iload, fi_aload, fi_istore, fi_astore, fi_iinc, fi_bin, fi_div, fi_un, fi_dup, fi_dup2, fi_pop, fi_if, fi_cmp, fi_getf, fi_putf, fi_putr, fi_ald, fi_ast, fi_alen, fi_iret, fi_zret, fi_vret, fi_cut, fi_no, fi_s0, fi_s1, fi_s2, fi_s3, fi_s4, fi_v0, fi_v1, fi_v2, fi_v3, fi_v4, fi_v5, fi_n0, fi_n1, fi_n2, fi_mm, fi_stat, fi_alds, fi_tsw, List.getElem?_cons_zero, List.getElem?_cons_succ, List.set_cons_zero, List.set_cons_succ, List.length_cons, List.length_nil, Option.toList_some, Option.toList_none, List.cons_append, List.nil_append, Value.category, true_and, k_0, k_1, k_2, k_3, k_4, false_implies, true_implies, reduceCtorEq, hS.1]
          refine ⟨by decide, ⟨_, hS.2.1⟩, (c_adv hS l3).mono ?_⟩
          rintro r M' ⟨rfl, σ4, rfl, f4, l4⟩
          simp only [fi_const, fi_iload, fi_aload, fi_istore, fi_astore, fi_iinc, fi_bin, fi_div, fi_un, fi_dup, fi_dup2, fi_pop, fi_if, fi_cmp, fi_getf, fi_putf, fi_putr, fi_ald, fi_ast, fi_alen, fi_iret, fi_zret, fi_vret, fi_cut, fi_no, fi_s0, fi_s1, fi_s2, fi_s3, fi_s4, fi_v0, fi_v1, fi_v2, fi_v3, fi_v4, fi_v5, fi_n0, fi_n1, fi_n2, fi_mm, fi_stat, fi_alds, fi_tsw, List.getElem?_cons_zero, List.getElem?_cons_succ, List.set_cons_zero, List.set_cons_succ, List.length_cons, List.length_nil, Option.toList_some, Option.toList_none, List.cons_append, List.nil_append, Value.category, true_and, k_0, k_1, k_2, k_3, k_4, false_implies, true_implies, reduceCtorEq]
          exact ⟨Or.inr trivial, σ4, rfl, (show loC σ σ3 from fun a ha => c3 a (by omega) (by omega)).tr (loC.tk f4), rfl, l4⟩
        · rw [if_neg q3]
          refine ⟨by decide, ⟨_, rfl⟩, (fail σ (-16) h3.2.1 loC.rf).mono ?_⟩
          rintro r M' ⟨x, rfl, hx, hq⟩
          simp only [fi_const, fi_iload, fi_aload, fi_istore, fi_astore, fi_iinc, fi_bin, fi_div, fi_un, fi_dup, fi_dup2, fi_pop, fi_if, fi_cmp, fi_getf, fi_putf, fi_putr, fi_ald, fi_ast, fi_alen, fi_iret, fi_zret, fi_vret, fi_cut, fi_no, fi_s0, fi_s1, fi_s2, fi_s3, fi_s4, fi_v0, fi_v1, fi_v2, fi_v3, fi_v4, fi_v5, fi_n0, fi_n1, fi_n2, fi_mm, fi_stat, fi_alds, fi_tsw, List.getElem?_cons_zero, List.getElem?_cons_succ, List.set_cons_zero, List.set_cons_succ, List.length_cons, List.length_nil, Option.toList_some, Option.toList_none, List.cons_append, List.nil_append, Value.category, true_and, k_0, k_1, k_2, k_3, k_4, false_implies, true_implies, reduceCtorEq]
          exact ⟨hx, hq⟩
      · rw [if_neg q2]
        refine ⟨by decide, ⟨_, rfl⟩, (fail σ (-14) h3.2.1 loC.rf).mono ?_⟩
        rintro r M' ⟨x, rfl, hx, hq⟩
        simp only [fi_const, fi_iload, fi_aload, fi_istore, fi_astore, fi_iinc, fi_bin, fi_div, fi_un, fi_dup, fi_dup2, fi_pop, fi_if, fi_cmp, fi_getf, fi_putf, fi_putr, fi_ald, fi_ast, fi_alen, fi_iret, fi_zret, fi_vret, fi_cut, fi_no, fi_s0, fi_s1, fi_s2, fi_s3, fi_s4, fi_v0, fi_v1, fi_v2, fi_v3, fi_v4, fi_v5, fi_n0, fi_n1, fi_n2, fi_mm, fi_stat, fi_alds, fi_tsw, List.getElem?_cons_zero, List.getElem?_cons_succ, List.set_cons_zero, List.set_cons_succ, List.length_cons, List.length_nil, Option.toList_some, Option.toList_none, List.cons_append, List.nil_append, Value.category, true_and, k_0, k_1, k_2, k_3, k_4, false_implies, true_implies, reduceCtorEq]
        exact ⟨hx, hq⟩
    · rw [if_pos (show Z.2.2.1.2.2 ≤ tV b L k by split at w <;> omega)]
      refine ⟨by decide, ⟨_, rfl⟩, (fail σ (-12) h3.2.1 loC.rf).mono ?_⟩
      rintro r M' ⟨x, rfl, hx, hq⟩
      simp only [fi_const, fi_iload, fi_aload, fi_istore, fi_astore, fi_iinc, fi_bin, fi_div, fi_un, fi_dup, fi_dup2, fi_pop, fi_if, fi_cmp, fi_getf, fi_putf, fi_putr, fi_ald, fi_ast, fi_alen, fi_iret, fi_zret, fi_vret, fi_cut, fi_no, fi_s0, fi_s1, fi_s2, fi_s3, fi_s4, fi_v0, fi_v1, fi_v2, fi_v3, fi_v4, fi_v5, fi_n0, fi_n1, fi_n2, fi_mm, fi_stat, fi_alds, fi_tsw, List.getElem?_cons_zero, List.getElem?_cons_succ, List.set_cons_zero, List.set_cons_succ, List.length_cons, List.length_nil, Option.toList_some, Option.toList_none, List.cons_append, List.nil_append, Value.category, true_and, k_0, k_1, k_2, k_3, k_4, false_implies, true_implies, reduceCtorEq]
      exact ⟨hx, hq⟩
  · rw [if_neg q]
    refine ⟨by decide, ⟨_, rfl⟩, (fail σ (-11) h3.2.1 loC.rf).mono ?_⟩
    rintro r M' ⟨x, rfl, hx, hq⟩
    simp only [fi_const, fi_iload, fi_aload, fi_istore, fi_astore, fi_iinc, fi_bin, fi_div, fi_un, fi_dup, fi_dup2, fi_pop, fi_if, fi_cmp, fi_getf, fi_putf, fi_putr, fi_ald, fi_ast, fi_alen, fi_iret, fi_zret, fi_vret, fi_cut, fi_no, fi_s0, fi_s1, fi_s2, fi_s3, fi_s4, fi_v0, fi_v1, fi_v2, fi_v3, fi_v4, fi_v5, fi_n0, fi_n1, fi_n2, fi_mm, fi_stat, fi_alds, fi_tsw, List.getElem?_cons_zero, List.getElem?_cons_succ, List.set_cons_zero, List.set_cons_succ, List.length_cons, List.length_nil, Option.toList_some, Option.toList_none, List.cons_append, List.nil_append, Value.category, true_and, k_0, k_1, k_2, k_3, k_4, false_implies, true_implies, reduceCtorEq]
    exact ⟨hx, hq⟩
end PL4
