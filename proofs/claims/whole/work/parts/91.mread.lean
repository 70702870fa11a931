/-! ===== the reference's reader: statements ===== -/
def fiM (b : Nat → Nat) (L : Nat) (Z : Zt) (k : Nat) (o : Option Er) : Er ⊕ (Zt × Nat) := match o with | some e => .inl e | none => pSem b L (.inr (Z, k))
def rdM (S : List fs_Sh) (fr : Bool) (τ : Nat → Nat → Int64) (σ : Nat → Nat → Int32) (b : Nat → Nat) (L : Nat) (t : Er ⊕ (Zt × Nat)) : Option Value → fs_M → Prop := fun r M' => r = none ∧ ∃ σ' Z' k' o', M' = ((S, fr), σ', τ) ∧ loM σ σ' ∧ MS σ' b L Z' k' o' ∧ fiM b L Z' k' o' = t
section PR3
variable {g : fs_G} {d : Nat} {S : List fs_Sh} {fr : Bool} {σ : Nat → Nat → Int32} {τ : Nat → Nat → Int64} {b : Nat → Nat} {L : Nat} {Z : Zt} {k : Nat} {o : Option Er}
theorem MS.tl {σ' : Nat → Nat → Int32} {T' : Nat → Int32} {c' : Nat × Nat × Nat} (h : MS σ b L Z k none) (hs : ∀ a, a ≠ 58 → σ' a = σ a) (h58 : σ' 58 = T') (hZ : okZ (T', Z.2.1, c', Z.2.2.2.1, Z.2.2.2.2)) : MS σ' b L (T', Z.2.1, c', Z.2.2.2.1, Z.2.2.2.2) k none := by
  obtain ⟨h1, h2, h3, h4, h5⟩ := h
  obtain ⟨a1, a2, a3, a4, a5, a6⟩ := h4 rfl
  obtain ⟨t1, t2, t3⟩ := h1
  have e := hs 56 (by decide)
  refine ⟨⟨by rw [e]; exact t1, t2, by rw [hs 57 (by decide)]; exact t3⟩, h58, hZ, fun _ => ⟨a1, a2.fa (fun c _ _ => by rw [e]), by rw [hs 60 (by decide)]; exact a3, by rw [e]; exact a4, by rw [e]; exact a5, by rw [e]; exact a6⟩, fun e' z => by cases z⟩
theorem eInt_n {lo hi : Nat} (w : eInt b L lo hi k = none) : tK b L k = 2 ∧ lo ≤ tV b L k ∧ tV b L k ≤ hi := by
  unfold eInt at w
  by_cases v : tK b L k = 2
  · rw [if_pos v] at w
    by_cases u : tV b L k < lo ∨ hi < tV b L k
    · rw [if_pos u] at w; cases w
    · omega
  · rw [if_neg v] at w; cases w
theorem sLoc_of {q : Bool} (hq : ofE (ofE (wh (decide (Z.2.2.1.1 = 4)) (-17) (tS b L k)) (eNew b L (tE b L k) Z.1 Z.2.2.1.1 Z.2.2.1.2.1)) (eInt b L 0 9999 (tE b L (tE b L k))) = none → q = !decide (tW b L (tE b L (tE b L (tE b L k))) = nI 5 ∨ tW b L (tE b L (tE b L (tE b L k))) = nI 6)) : (∀ e, ofE (ofE (ofE (wh (decide (Z.2.2.1.1 = 4)) (-17) (tS b L k)) (eNew b L (tE b L k) Z.1 Z.2.2.1.1 Z.2.2.1.2.1)) (eInt b L 0 9999 (tE b L (tE b L k)))) (wh q (-11) (tS b L (tE b L (tE b L (tE b L k))))) = some e → sLoc b L k Z = .inl e) ∧ (ofE (ofE (ofE (wh (decide (Z.2.2.1.1 = 4)) (-17) (tS b L k)) (eNew b L (tE b L k) Z.1 Z.2.2.1.1 Z.2.2.1.2.1)) (eInt b L 0 9999 (tE b L (tE b L k)))) (wh q (-11) (tS b L (tE b L (tE b L (tE b L k))))) = none → ¬ Z.2.2.1.1 = 4 ∧ eInt b L 0 9999 (tE b L (tE b L k)) = none ∧ (tW b L (tE b L (tE b L (tE b L k))) = nI 5 ∨ tW b L (tE b L (tE b L (tE b L k))) = nI 6) ∧ sLoc b L k Z = .inr ((adL Z.1 Z.2.2.1.1 (tN b L (tE b L k)) (nI (tV b L (tE b L (tE b L k)))) (bI (decide (tW b L (tE b L (tE b L (tE b L k))) = nI 5))), Z.2.1, (Z.2.2.1.1 + 1, Z.2.2.1.2.1, Z.2.2.1.2.2), Z.2.2.2.1, Z.2.2.2.2), tE b L (tE b L (tE b L (tE b L k))))) := by
  unfold sLoc
  by_cases q4 : Z.2.2.1.1 = 4
  · rw [if_pos q4, decide_eq_true q4]
    refine ⟨fun e he => ?_, fun he => ?_⟩
    · simp only [wh, ofE, if_pos] at he; rw [Option.some.inj he]
    · simp [wh, ofE] at he
  · rw [if_neg q4]
    rw [decide_eq_false q4] at hq ⊢
    cases w : eNew b L (tE b L k) Z.1 Z.2.2.1.1 Z.2.2.1.2.1 with
    | some e1 =>
      refine ⟨fun e he => ?_, fun he => ?_⟩
      · simp [wh, ofE] at he; rw [he]
      · simp [wh, ofE] at he
    | none =>
      rw [w] at hq
      cases w2 : eInt b L 0 9999 (tE b L (tE b L k)) with
      | some e1 =>
        refine ⟨fun e he => ?_, fun he => ?_⟩
        · simp [wh, ofE] at he; simp only []; rw [he]
        · simp [wh, ofE] at he
      | none =>
        rw [w2] at hq
        have := hq rfl
        subst this
        simp only []
        by_cases u : tW b L (tE b L (tE b L (tE b L k))) = nI 5 ∨ tW b L (tE b L (tE b L (tE b L k))) = nI 6
        · rw [if_pos u, decide_eq_true u]
          refine ⟨fun e he => ?_, fun _ => ⟨q4, trivial, u, rfl⟩⟩
          simp [wh, ofE] at he
        · rw [if_neg u, decide_eq_false u]
          refine ⟨fun e he => ?_, fun he => ?_⟩
          · simp [wh, ofE] at he; rw [he]
          · simp [wh, ofE] at he
theorem nar_i (x : Int32) : vp_nar .int x = x := rfl
theorem l_rl122 (hM : shM S 56) {σ0 : Nat → Nat → Int32} {y1 : Int32} {y : Nat} {i : Bool} {z : Value} (h : MS σ b L Z k none) (h0 : tfM σ0 σ) (n4 : Z.2.2.1.1 < 4) (hy : y ≤ 9999) : fs_R g m_X9_readLocation d (0, 0) 122 [.ref 56, .int (nI Z.2.2.1.1), .int y1, .int (nI y), z] [.int (bI i), .int (nI (8 + Z.2.2.1.1)), .ref 58] ((S, fr), fs_u (fs_u σ 58 Z.2.2.1.1 y1) 58 (4 + Z.2.2.1.1) (nI y), τ) (rdM S fr τ σ0 b L (pSem b L (.inr ((adL Z.1 Z.2.2.1.1 y1 (nI y) (bI i), Z.2.1, (Z.2.2.1.1 + 1, Z.2.2.1.2.1, Z.2.2.1.2.2), Z.2.2.2.1, Z.2.2.2.2), k)))) := by
  obtain ⟨c0, c1, c2, c3, c4, c5⟩ := h.cn
  have i3 : vp_in (nI (8 + Z.2.2.1.1)) 83 := vp_in_nI (by omega) (by decide)
  have i80 : vp_in 80 83 := pk_in 80 83 (by decide) (by decide) (by decide)
  have e80 : fs_u (fs_u (fs_u σ 58 Z.2.2.1.1 y1) 58 (4 + Z.2.2.1.1) (nI y)) 58 (8 + Z.2.2.1.1) (bI i) 58 80 = nI Z.2.2.1.1 := by
    simp only [fs_u]; rw [if_neg (by omega), if_neg (by omega), if_neg (by omega)]; exact c0
  refine S_X9_readLocation_122 ?_
  simp only [T_X9_readLocation_122, fi_const, fi_iload, fi_aload, fi_istore, fi_astore, fi_iinc, fi_bin, fi_div, fi_un, fi_dup, fi_dup2, fi_pop, fi_if, fi_cmp, fi_getf, fi_putf, fi_putr, fi_ald, fi_ast, fi_alen, fi_iret, fi_zret, fi_vret, fi_cut, fi_no, fi_s0, fi_s1, fi_s2, fi_s3, fi_s4, fi_v0, fi_v1, fi_v2, fi_v3, fi_v4, fi_v5, fi_n0, fi_n1, fi_n2, fi_mm, fi_stat, fi_alds, fi_tsw, List.getElem?_cons_zero, List.getElem?_cons_succ, List.set_cons_zero, List.set_cons_succ, List.length_cons, List.length_nil, Option.toList_some, Option.toList_none, List.cons_append, List.nil_append, Value.category, true_and, k_0, k_1, k_2, k_3, k_4, false_implies, true_implies, reduceCtorEq, hM.1, hM.2.2.1, show 56 + 2 = 58 from rfl, nar_i, i3, i80, nI_clamp (show 8 + Z.2.2.1.1 < 2 ^ 31 by omega), k_80, e80, nI_1]
  have hs : ∀ a, a ≠ 58 → fs_u (fs_u (fs_u (fs_u σ 58 Z.2.2.1.1 y1) 58 (4 + Z.2.2.1.1) (nI y)) 58 (8 + Z.2.2.1.1) (bI i)) 58 80 (nI (Z.2.2.1.1 + 1)) a = σ a := fun a ha => by rw [fs_u_ne ha, fs_u_ne ha, fs_u_ne ha, fs_u_ne ha]
  refine ⟨rfl, _, _, k, none, rfl, ?_, h.tl hs (T' := adL Z.1 Z.2.2.1.1 y1 (nI y) (bI i)) (c' := (Z.2.2.1.1 + 1, Z.2.2.1.2.1, Z.2.2.1.2.2)) ?_ (okZ_loc h.2.2.1 n4 hy), rfl⟩
  · intro a c hac
    rw [← h0.lo a c hac]
    simp only [fs_u]
    rw [if_neg (by omega), if_neg (by omega), if_neg (by omega), if_neg (by omega)]
  · funext j
    rw [← h.2.1]
    simp only [fs_u, adL]
    by_cases w1 : j = 80
    · rw [if_pos ⟨trivial, w1⟩, if_neg (by omega), if_neg (by omega), if_neg (by omega), if_pos w1]
    · rw [if_neg (fun z => w1 z.2)]
      by_cases w2 : j = 8 + Z.2.2.1.1
      · rw [if_pos ⟨trivial, w2⟩, if_neg (by omega), if_neg (by omega), if_pos w2]
      · rw [if_neg (fun z => w2 z.2)]
        by_cases w3 : j = 4 + Z.2.2.1.1
        · rw [if_pos ⟨trivial, w3⟩, if_neg (by omega), if_pos w3]
        · rw [if_neg (fun z => w3 z.2)]
          by_cases w4 : j = Z.2.2.1.1
          · rw [if_pos ⟨trivial, w4⟩, if_pos w4]
          · rw [if_neg (fun z => w4 z.2), if_neg w4, if_neg w3, if_neg w2, if_neg w1]
theorem l_rl69 (hM : shM S 56) {σ0 : Nat → Nat → Int32} {y1 y2 : Int32} {q i : Bool} {o' : Option Er} {k0 : Nat} (h : MS σ b L Z k o) (h0 : tfM σ0 σ) (ho : ofE o (wh q (-11) (tS b L k)) = o') (he : ∀ e, o' = some e → sLoc b L k0 Z = .inl e) (hz : o' = none → ¬ Z.2.2.1.1 = 4 ∧ ∃ y, y ≤ 9999 ∧ y2 = nI y ∧ sLoc b L k0 Z = .inr ((adL Z.1 Z.2.2.1.1 y1 y2 (bI i), Z.2.1, (Z.2.2.1.1 + 1, Z.2.2.1.2.1, Z.2.2.1.2.2), Z.2.2.2.1, Z.2.2.2.2), tE b L k)) : fs_R g m_X9_readLocation d (0, 0) 69 [.ref 56, .int (nI Z.2.2.1.1), .int y1, .int y2, .int (bI i)] [.int (bI q), .ref 56] ((S, fr), σ, τ) (rdM S fr τ σ0 b L (pSem b L (sLoc b L k0 Z))) := by
  refine S_X9_readLocation_69 ?_
  simp only [T_X9_readLocation_69, fi_const, fi_iload, fi_aload, fi_istore, fi_astore, fi_iinc, fi_bin, fi_div, fi_un, fi_dup, fi_dup2, fi_pop, fi_if, fi_cmp, fi_getf, fi_putf, fi_putr, fi_ald, fi_ast, fi_alen, fi_iret, fi_zret, fi_vret, fi_cut, fi_no, fi_s0, fi_s1, fi_s2, fi_s3, fi_s4, fi_v0, fi_v1, fi_v2, fi_v3, fi_v4, fi_v5, fi_n0, fi_n1, fi_n2, fi_mm, fi_stat, fi_alds, fi_tsw, List.getElem?_cons_zero, List.getElem?_cons_succ, List.set_cons_zero, List.set_cons_succ, List.length_cons, List.length_nil, Option.toList_some, Option.toList_none, List.cons_append, List.nil_append, Value.category, true_and, k_0, k_1, k_2, k_3, k_4, false_implies, true_implies, reduceCtorEq, hM.1]
  refine ⟨by decide, ⟨_, rfl⟩, (c_failsIf hM (c := q) (fun p => by unfold erC; simp) rfl h).mono ?_⟩
  rintro r M' ⟨rfl, σ1, rfl, f1, f2⟩
  rw [ho] at f2
  simp only [fi_const, fi_iload, fi_aload, fi_istore, fi_astore, fi_iinc, fi_bin, fi_div, fi_un, fi_dup, fi_dup2, fi_pop, fi_if, fi_cmp, fi_getf, fi_putf, fi_putr, fi_ald, fi_ast, fi_alen, fi_iret, fi_zret, fi_vret, fi_cut, fi_no, fi_s0, fi_s1, fi_s2, fi_s3, fi_s4, fi_v0, fi_v1, fi_v2, fi_v3, fi_v4, fi_v5, fi_n0, fi_n1, fi_n2, fi_mm, fi_stat, fi_alds, fi_tsw, List.getElem?_cons_zero, List.getElem?_cons_succ, List.set_cons_zero, List.set_cons_succ, List.length_cons, List.length_nil, Option.toList_some, Option.toList_none, List.cons_append, List.nil_append, Value.category, true_and, k_0, k_1, k_2, k_3, k_4, false_implies, true_implies, reduceCtorEq, hM.1]
  refine ⟨by decide, ⟨_, rfl⟩, (c_goOn hM f2).mono ?_⟩
  rintro r M' ⟨rfl, σ2, rfl, f3, f4⟩
  have he2 := f4.e0
  have hlo := (h0.tr (tfM.fa f1)).tr (tfM.tk f3)
  obtain ⟨c0, c1, c2, c3, c4, c5⟩ := f4.cn
  simp only [fi_const, fi_iload, fi_aload, fi_istore, fi_astore, fi_iinc, fi_bin, fi_div, fi_un, fi_dup, fi_dup2, fi_pop, fi_if, fi_cmp, fi_getf, fi_putf, fi_putr, fi_ald, fi_ast, fi_alen, fi_iret, fi_zret, fi_vret, fi_cut, fi_no, fi_s0, fi_s1, fi_s2, fi_s3, fi_s4, fi_v0, fi_v1, fi_v2, fi_v3, fi_v4, fi_v5, fi_n0, fi_n1, fi_n2, fi_mm, fi_stat, fi_alds, fi_tsw, List.getElem?_cons_zero, List.getElem?_cons_succ, List.set_cons_zero, List.set_cons_succ, List.length_cons, List.length_nil, Option.toList_some, Option.toList_none, List.cons_append, List.nil_append, Value.category, true_and, k_0, k_1, k_2, k_3, k_4, false_implies, true_implies, reduceCtorEq, hM.1]
  refine ⟨fun z => ?_, fun z => ?_⟩
  · have hn := he2.mp z
    obtain ⟨n4, y, hy, ey, es⟩ := hz hn
    subst hn
    subst ey
    rw [es]
    have i1 : vp_in (nI Z.2.2.1.1) 83 := vp_in_nI (by omega) (by decide)
    have i2 : vp_in (nI (4 + Z.2.2.1.1)) 83 := vp_in_nI (by omega) (by decide)
    have i3 : vp_in (nI (8 + Z.2.2.1.1)) 83 := vp_in_nI (by omega) (by decide)
    have a0 : (0 : Int32) + nI Z.2.2.1.1 = nI Z.2.2.1.1 := by rw [Int32.zero_add]
    have a4 : (4 : Int32) + nI Z.2.2.1.1 = nI (4 + Z.2.2.1.1) := nI_add 4 _
    have a8 : (8 : Int32) + nI Z.2.2.1.1 = nI (8 + Z.2.2.1.1) := nI_add 8 _
    simp only [hM.2.2.1, show 56 + 2 = 58 from rfl, fi_const, fi_iload, fi_aload, fi_istore, fi_astore, fi_iinc, fi_bin, fi_div, fi_un, fi_dup, fi_dup2, fi_pop, fi_if, fi_cmp, fi_getf, fi_putf, fi_putr, fi_ald, fi_ast, fi_alen, fi_iret, fi_zret, fi_vret, fi_cut, fi_no, fi_s0, fi_s1, fi_s2, fi_s3, fi_s4, fi_v0, fi_v1, fi_v2, fi_v3, fi_v4, fi_v5, fi_n0, fi_n1, fi_n2, fi_mm, fi_stat, fi_alds, fi_tsw, List.getElem?_cons_zero, List.getElem?_cons_succ, List.set_cons_zero, List.set_cons_succ, List.length_cons, List.length_nil, Option.toList_some, Option.toList_none, List.cons_append, List.nil_append, Value.category, true_and, k_0, k_1, k_2, k_3, k_4, false_implies, true_implies, reduceCtorEq, a0, a4, a8, i1, i2, i3, nI_clamp (show Z.2.2.1.1 < 2 ^ 31 by omega), nI_clamp (show 4 + Z.2.2.1.1 < 2 ^ 31 by omega), nar_i]
    refine ⟨fun z2 => ?_, fun z2 => ?_⟩
    · have : i = false := bI_eq0.mp z2
      subst this
      exact l_rl122 (i := false) hM f4 hlo (by omega) hy
    · have : i = true := by cases i; exact absurd rfl z2; rfl
      subst this
      exact l_rl122 (i := true) hM f4 hlo (by omega) hy
  · cases w : o' with
    | none => exact absurd (he2.mpr w) z
    | some e =>
      rw [he e w]
      rw [w] at f4
      exact ⟨rfl, σ2, Z, _, some e, rfl, hlo.lo, f4, rfl⟩
theorem c_readLocationM (hM : shM S 56) (h : MS σ b L Z k none) : fs_Ct g m_X9_readLocation [.ref 56] ((S, fr), σ, τ) (rdM S fr τ σ b L (pSem b L (sLoc b L k Z))) := by
  obtain ⟨c0, c1, c2, c3, c4, c5⟩ := h.cn
  have i80 : vp_in 80 83 := pk_in 80 83 (by decide) (by decide) (by decide)
  have l19 : ∀ d, fs_R g m_X9_readLocation d (0, 0) 19 [.ref 56, .int (nI Z.2.2.1.1), .null, .null, .null] [.int (bI (decide (Z.2.2.1.1 = 4))), .ref 56] ((S, fr), σ, τ) (rdM S fr τ σ b L (pSem b L (sLoc b L k Z))) := by
    intro d
    refine S_X9_readLocation_19 ?_
    simp only [T_X9_readLocation_19, fi_const, fi_iload, fi_aload, fi_istore, fi_astore, fi_iinc, fi_bin, fi_div, fi_un, fi_dup, fi_dup2, fi_pop, fi_if, fi_cmp, fi_getf, fi_putf, fi_putr, fi_ald, fi_ast, fi_alen, fi_iret, fi_zret, fi_vret, fi_cut, fi_no, fi_s0, fi_s1, fi_s2, fi_s3, fi_s4, fi_v0, fi_v1, fi_v2, fi_v3, fi_v4, fi_v5, fi_n0, fi_n1, fi_n2, fi_mm, fi_stat, fi_alds, fi_tsw, List.getElem?_cons_zero, List.getElem?_cons_succ, List.set_cons_zero, List.set_cons_succ, List.length_cons, List.length_nil, Option.toList_some, Option.toList_none, List.cons_append, List.nil_append, Value.category, true_and, k_0, k_1, k_2, k_3, k_4, false_implies, true_implies, reduceCtorEq, hM.1]
    refine ⟨by decide, ⟨_, rfl⟩, (c_failsIf hM (c := decide (Z.2.2.1.1 = 4)) (fun p => by unfold erC; simp) rfl h).mono ?_⟩
    rintro r M' ⟨rfl, σ1, rfl, f1, f2⟩
    replace f2 : MS σ1 b L Z k (wh (decide (Z.2.2.1.1 = 4)) (-17) (tS b L k)) := f2
    simp only [fi_const, fi_iload, fi_aload, fi_istore, fi_astore, fi_iinc, fi_bin, fi_div, fi_un, fi_dup, fi_dup2, fi_pop, fi_if, fi_cmp, fi_getf, fi_putf, fi_putr, fi_ald, fi_ast, fi_alen, fi_iret, fi_zret, fi_vret, fi_cut, fi_no, fi_s0, fi_s1, fi_s2, fi_s3, fi_s4, fi_v0, fi_v1, fi_v2, fi_v3, fi_v4, fi_v5, fi_n0, fi_n1, fi_n2, fi_mm, fi_stat, fi_alds, fi_tsw, List.getElem?_cons_zero, List.getElem?_cons_succ, List.set_cons_zero, List.set_cons_succ, List.length_cons, List.length_nil, Option.toList_some, Option.toList_none, List.cons_append, List.nil_append, Value.category, true_and, k_0, k_1, k_2, k_3, k_4, false_implies, true_implies, reduceCtorEq, hM.1]
    refine ⟨by decide, ⟨_, rfl⟩, (c_goOn hM f2).mono ?_⟩
    rintro r M' ⟨rfl, σ2, rfl, f3, f4⟩
    simp only [fi_const, fi_iload, fi_aload, fi_istore, fi_astore, fi_iinc, fi_bin, fi_div, fi_un, fi_dup, fi_dup2, fi_pop, fi_if, fi_cmp, fi_getf, fi_putf, fi_putr, fi_ald, fi_ast, fi_alen, fi_iret, fi_zret, fi_vret, fi_cut, fi_no, fi_s0, fi_s1, fi_s2, fi_s3, fi_s4, fi_v0, fi_v1, fi_v2, fi_v3, fi_v4, fi_v5, fi_n0, fi_n1, fi_n2, fi_mm, fi_stat, fi_alds, fi_tsw, List.getElem?_cons_zero, List.getElem?_cons_succ, List.set_cons_zero, List.set_cons_succ, List.length_cons, List.length_nil, Option.toList_some, Option.toList_none, List.cons_append, List.nil_append, Value.category, true_and, k_0, k_1, k_2, k_3, k_4, false_implies, true_implies, reduceCtorEq, hM.1]
    refine ⟨by decide, ⟨_, rfl⟩, (c_newName hM f4).mono ?_⟩
    rintro r M' ⟨⟨y1, rfl, hy1⟩, σ3, rfl, f5, f6⟩
    simp only [fi_const, fi_iload, fi_aload, fi_istore, fi_astore, fi_iinc, fi_bin, fi_div, fi_un, fi_dup, fi_dup2, fi_pop, fi_if, fi_cmp, fi_getf, fi_putf, fi_putr, fi_ald, fi_ast, fi_alen, fi_iret, fi_zret, fi_vret, fi_cut, fi_no, fi_s0, fi_s1, fi_s2, fi_s3, fi_s4, fi_v0, fi_v1, fi_v2, fi_v3, fi_v4, fi_v5, fi_n0, fi_n1, fi_n2, fi_mm, fi_stat, fi_alds, fi_tsw, List.getElem?_cons_zero, List.getElem?_cons_succ, List.set_cons_zero, List.set_cons_succ, List.length_cons, List.length_nil, Option.toList_some, Option.toList_none, List.cons_append, List.nil_append, Value.category, true_and, k_0, k_1, k_2, k_3, k_4, false_implies, true_implies, reduceCtorEq, hM.1]
    refine ⟨by decide, ⟨_, rfl⟩, (c_integer (lo := 0) (hi := 9999) hM (by decide) (by decide) f6).mono ?_⟩
    rintro r M' ⟨⟨y2, rfl, hy2⟩, σ4, rfl, f7, f8⟩
    have hlo := (((tfM.fa f1).tr (tfM.tk f3)).tr f5).tr f7
    simp only [fi_const, fi_iload, fi_aload, fi_istore, fi_astore, fi_iinc, fi_bin, fi_div, fi_un, fi_dup, fi_dup2, fi_pop, fi_if, fi_cmp, fi_getf, fi_putf, fi_putr, fi_ald, fi_ast, fi_alen, fi_iret, fi_zret, fi_vret, fi_cut, fi_no, fi_s0, fi_s1, fi_s2, fi_s3, fi_s4, fi_v0, fi_v1, fi_v2, fi_v3, fi_v4, fi_v5, fi_n0, fi_n1, fi_n2, fi_mm, fi_stat, fi_alds, fi_tsw, List.getElem?_cons_zero, List.getElem?_cons_succ, List.set_cons_zero, List.set_cons_succ, List.length_cons, List.length_nil, Option.toList_some, Option.toList_none, List.cons_append, List.nil_append, Value.category, true_and, k_0, k_1, k_2, k_3, k_4, false_implies, true_implies, reduceCtorEq, hM.1]
    refine ⟨by decide, ⟨_, rfl⟩, (c_isWordM (w := 5) hM f8 (by decide)).mono ?_⟩
    rintro r M' ⟨rfl, rfl⟩
    simp only [fi_const, fi_iload, fi_aload, fi_istore, fi_astore, fi_iinc, fi_bin, fi_div, fi_un, fi_dup, fi_dup2, fi_pop, fi_if, fi_cmp, fi_getf, fi_putf, fi_putr, fi_ald, fi_ast, fi_alen, fi_iret, fi_zret, fi_vret, fi_cut, fi_no, fi_s0, fi_s1, fi_s2, fi_s3, fi_s4, fi_v0, fi_v1, fi_v2, fi_v3, fi_v4, fi_v5, fi_n0, fi_n1, fi_n2, fi_mm, fi_stat, fi_alds, fi_tsw, List.getElem?_cons_zero, List.getElem?_cons_succ, List.set_cons_zero, List.set_cons_succ, List.length_cons, List.length_nil, Option.toList_some, Option.toList_none, List.cons_append, List.nil_append, Value.category, true_and, k_0, k_1, k_2, k_3, k_4, false_implies, true_implies, reduceCtorEq, hM.1, bI_eq0]
    have main : ∀ q i : Bool, (ofE (ofE (wh (decide (Z.2.2.1.1 = 4)) (-17) (tS b L k)) (eNew b L (tE b L k) Z.1 Z.2.2.1.1 Z.2.2.1.2.1)) (eInt b L 0 9999 (tE b L (tE b L k))) = none → q = !decide (tW b L (tE b L (tE b L (tE b L k))) = nI 5 ∨ tW b L (tE b L (tE b L (tE b L k))) = nI 6)) → (ofE (ofE (wh (decide (Z.2.2.1.1 = 4)) (-17) (tS b L k)) (eNew b L (tE b L k) Z.1 Z.2.2.1.1 Z.2.2.1.2.1)) (eInt b L 0 9999 (tE b L (tE b L k))) = none → i = decide (tW b L (tE b L (tE b L (tE b L k))) = nI 5)) → fs_R g m_X9_readLocation d (0, 0) 69 [.ref 56, .int (nI Z.2.2.1.1), .int y1, .int y2, .int (bI i)] [.int (bI q), .ref 56] ((S, fr), σ4, τ) (rdM S fr τ σ b L (pSem b L (sLoc b L k Z))) := by
      intro q i hq hi
      obtain ⟨s1, s2⟩ := sLoc_of (Z := Z) (b := b) (L := L) (k := k) hq
      refine l_rl69 hM f8 hlo rfl s1 (fun w => ?_)
      obtain ⟨t1, t2, t3, t4⟩ := s2 w
      have w3 := (ofE_n.mp w).1
      have w2 := (ofE_n.mp w3).1
      have := hy1 w2
      have e2 := hy2 w3
      subst this
      subst e2
      refine ⟨t1, _, (eInt_n t2).2.2, rfl, ?_⟩
      rw [t4, hi w3]
    refine ⟨fun z1 => ?_, fun z1 => ?_⟩
    · refine ⟨by decide, ⟨_, rfl⟩, (c_isWordM (w := 6) hM f8 (by decide)).mono ?_⟩
      rintro r M' ⟨rfl, rfl⟩
      simp only [fi_const, fi_iload, fi_aload, fi_istore, fi_astore, fi_iinc, fi_bin, fi_div, fi_un, fi_dup, fi_dup2, fi_pop, fi_if, fi_cmp, fi_getf, fi_putf, fi_putr, fi_ald, fi_ast, fi_alen, fi_iret, fi_zret, fi_vret, fi_cut, fi_no, fi_s0, fi_s1, fi_s2, fi_s3, fi_s4, fi_v0, fi_v1, fi_v2, fi_v3, fi_v4, fi_v5, fi_n0, fi_n1, fi_n2, fi_mm, fi_stat, fi_alds, fi_tsw, List.getElem?_cons_zero, List.getElem?_cons_succ, List.set_cons_zero, List.set_cons_succ, List.length_cons, List.length_nil, Option.toList_some, Option.toList_none, List.cons_append, List.nil_append, Value.category, true_and, k_0, k_1, k_2, k_3, k_4, false_implies, true_implies, reduceCtorEq, hM.1, bI_eq0]
      refine ⟨fun z2 => main true _ (fun w => ?_) (fun w => ?_), fun z2 => main false _ (fun w => ?_) (fun w => ?_)⟩
      · rw [decide_eq_true w, Bool.true_and, decide_eq_false_iff_not] at z1 z2
        rw [decide_eq_false (fun u => u.elim z1 z2)]; rfl
      · rw [decide_eq_true w, Bool.true_and]
      · rw [decide_eq_true w, Bool.true_and, decide_eq_false_iff_not, Decidable.not_not] at z2
        rw [decide_eq_true (Or.inr z2)]; rfl
      · rw [decide_eq_true w, Bool.true_and]
    · refine main false _ (fun w => ?_) (fun w => ?_)
      · rw [decide_eq_true w, Bool.true_and, decide_eq_false_iff_not, Decidable.not_not] at z1
        rw [decide_eq_true (Or.inl z1)]; rfl
      · rw [decide_eq_true w, Bool.true_and]
  refine fs_enterC (by decide) (by simp [fs_ok]) (Nat.le_of_ble_eq_true rfl) (fun d => S_X9_readLocation_0 ?_)
  show T_X9_readLocation_0 g d _ [.ref 56, .null, .null, .null, .null] [] _
  simp only [T_X9_readLocation_0, fi_const, fi_iload, fi_aload, fi_istore, fi_astore, fi_iinc, fi_bin, fi_div, fi_un, fi_dup, fi_dup2, fi_pop, fi_if, fi_cmp, fi_getf, fi_putf, fi_putr, fi_ald, fi_ast, fi_alen, fi_iret, fi_zret, fi_vret, fi_cut, fi_no, fi_s0, fi_s1, fi_s2, fi_s3, fi_s4, fi_v0, fi_v1, fi_v2, fi_v3, fi_v4, fi_v5, fi_n0, fi_n1, fi_n2, fi_mm, fi_stat, fi_alds, fi_tsw, List.getElem?_cons_zero, List.getElem?_cons_succ, List.set_cons_zero, List.set_cons_succ, List.length_cons, List.length_nil, Option.toList_some, Option.toList_none, List.cons_append, List.nil_append, Value.category, true_and, k_0, k_1, k_2, k_3, k_4, false_implies, true_implies, reduceCtorEq]
  simp only [fi_const, fi_iload, fi_aload, fi_istore, fi_astore, fi_iinc, fi_bin, fi_div, fi_un, fi_dup, fi_dup2, fi_pop, fi_if, fi_cmp, fi_getf, fi_putf, fi_putr, fi_ald, fi_ast, fi_alen, fi_iret, fi_zret, fi_vret, fi_cut, fi_no, fi_s0, fi_s1, fi_s2, fi_s3, fi_s4, fi_v0, fi_v1, fi_v2, fi_v3, fi_v4, fi_v5, fi_n0, fi_n1, fi_n2, fi_mm, fi_stat, fi_alds, fi_tsw, List.getElem?_cons_zero, List.getElem?_cons_succ, List.set_cons_zero, List.set_cons_succ, List.length_cons, List.length_nil, Option.toList_some, Option.toList_none, List.cons_append, List.nil_append, Value.category, true_and, k_0, k_1, k_2, k_3, k_4, false_implies, true_implies, reduceCtorEq, hM.1]
  simp only [hM.2.2.1, k_80, show 56 + 2 = 58 from rfl, c0]
  refine ⟨trivial, i80, pk_eq Z.2.2.1.1 4 (fun w => ?_) (fun w => ?_)⟩
  · have := l19 d; rw [decide_eq_true w] at this; exact this
  · have := l19 d; rw [decide_eq_false w] at this; exact this
end PR3
