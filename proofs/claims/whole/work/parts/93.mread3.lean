/-! ===== the reference's reader: scenes ===== -/
section PR5
variable {g : fs_G} {d : Nat} {S : List fs_Sh} {fr : Bool} {σ : Nat → Nat → Int32} {τ : Nat → Nat → Int64} {b : Nat → Nat} {L : Nat} {Z : Zt} {k : Nat} {o : Option Er}
/-- the faults before the cast -/
def o4S (b : Nat → Nat) (L k : Nat) (Z : Zt) : Option Er := ofE (ofE (wh (decide (Z.2.2.1.2.2 = 14)) (-17) (tS b L k)) (eLoc b L (tE b L k) Z.1 Z.2.2.1.1)) (eInt b L 1 60 (tE b L (tE b L k)))
theorem sScn_of : (∀ e, o4S b L k Z = some e → sScn b L k Z = .inl e) ∧ (o4S b L k Z = none → ¬ Z.2.2.1.2.2 = 14 ∧ eInt b L 1 60 (tE b L (tE b L k)) = none ∧ eLoc b L (tE b L k) Z.1 Z.2.2.1.1 = none ∧ sScn b L k Z = (match pCast b L Z.1 Z.2.2.1.2.1 7 (nK b L (tE b L (tE b L (tE b L k)))) 0 with
      | .inl e => .inl e
      | .inr (c, k') => .inr ((adS Z.1 Z.2.2.1.2.2 (fndB Z.1 (tN b L (tE b L k)) Z.2.2.1.1 0) (nI (tV b L (tE b L (tE b L k)))) (bI (decide (tW b L (tE b L (tE b L (tE b L k))) = nI 7))) c, Z.2.1, (Z.2.2.1.1, Z.2.2.1.2.1, Z.2.2.1.2.2 + 1), Z.2.2.2.1, Z.2.2.2.2), k'))) := by
  unfold sScn o4S
  by_cases q4 : Z.2.2.1.2.2 = 14
  · rw [if_pos q4, decide_eq_true q4]
    refine ⟨fun e he => ?_, fun he => ?_⟩
    · simp only [wh, ofE, if_pos] at he; rw [Option.some.inj he]
    · simp [wh, ofE] at he
  · rw [if_neg q4, decide_eq_false q4]
    cases w : eLoc b L (tE b L k) Z.1 Z.2.2.1.1 with
    | some e1 =>
      refine ⟨fun e he => ?_, fun he => ?_⟩
      · simp [wh, ofE] at he; rw [he]
      · simp [wh, ofE] at he
    | none =>
      cases w2 : eInt b L 1 60 (tE b L (tE b L k)) with
      | some e1 =>
        refine ⟨fun e he => ?_, fun he => ?_⟩
        · simp [wh, ofE] at he; simp only []; rw [he]
        · simp [wh, ofE] at he
      | none =>
        refine ⟨fun e he => ?_, fun _ => ⟨q4, rfl, rfl, rfl⟩⟩
        simp [wh, ofE] at he
theorem eLoc_n {T : Nat → Int32} {nL : Nat} (h : eLoc b L k T nL = none) : ∃ l, l < nL ∧ fndB T (tN b L k) nL 0 = nI l := by
  unfold eLoc at h
  by_cases w : isNm b L k = true
  · rw [if_pos w] at h
    by_cases u : fndB T (tN b L k) nL 0 = -1
    · rw [if_pos u] at h; cases h
    · rcases fndB_or (f := T) (x := tN b L k) nL 0 with v | ⟨j, j1, j2, ej⟩
      · exact absurd v u
      · exact ⟨j, by omega, ej⟩
  · rw [if_neg w] at h; cases h
theorem l_rs158 (hM : shM S 56) {σ0 : Nat → Nat → Int32} {l y : Nat} {c : Int32} {i : Bool} {z : Value} (h : MS σ b L Z k none) (h0 : tfM σ0 σ) (n4 : Z.2.2.1.2.2 < 14) (hl : l < Z.2.2.1.1) (hy1 : 1 ≤ y) (hy : y ≤ 60) (hc : ∀ i, Z.2.2.1.2.1 ≤ i → bt c i = false) : fs_R g m_X9_readScene d (0, 0) 158 [.ref 56, .int (nI Z.2.2.1.2.2), .int (nI l), .int (nI y), z, .int c] [.int (bI i), .int (nI (52 + Z.2.2.1.2.2)), .ref 58] ((S, fr), fs_u (fs_u σ 58 (24 + Z.2.2.1.2.2) (nI l)) 58 (38 + Z.2.2.1.2.2) (nI y), τ) (rdM S fr τ σ0 b L (pSem b L (.inr ((adS Z.1 Z.2.2.1.2.2 (nI l) (nI y) (bI i) c, Z.2.1, (Z.2.2.1.1, Z.2.2.1.2.1, Z.2.2.1.2.2 + 1), Z.2.2.2.1, Z.2.2.2.2), k)))) := by
  obtain ⟨c0, c1, c2, c3, c4, c5⟩ := h.cn
  have i3 : vp_in (nI (52 + Z.2.2.1.2.2)) 83 := vp_in_nI (by omega) (by decide)
  have i4 : vp_in (nI (66 + Z.2.2.1.2.2)) 83 := vp_in_nI (by omega) (by decide)
  have i82 : vp_in 82 83 := pk_in 82 83 (by decide) (by decide) (by decide)
  have a4 : (66 : Int32) + nI Z.2.2.1.2.2 = nI (66 + Z.2.2.1.2.2) := nI_add 66 _
  have e82 : fs_u (fs_u (fs_u (fs_u σ 58 (24 + Z.2.2.1.2.2) (nI l)) 58 (38 + Z.2.2.1.2.2) (nI y)) 58 (52 + Z.2.2.1.2.2) (bI i)) 58 (66 + Z.2.2.1.2.2) c 58 82 = nI Z.2.2.1.2.2 := by
    simp only [fs_u]; rw [if_neg (by omega), if_neg (by omega), if_neg (by omega), if_neg (by omega)]; exact c2
  refine S_X9_readScene_158 ?_
  simp only [T_X9_readScene_158, fi_const, fi_iload, fi_aload, fi_istore, fi_astore, fi_iinc, fi_bin, fi_div, fi_un, fi_dup, fi_dup2, fi_pop, fi_if, fi_cmp, fi_getf, fi_putf, fi_putr, fi_ald, fi_ast, fi_alen, fi_iret, fi_zret, fi_vret, fi_cut, fi_no, fi_s0, fi_s1, fi_s2, fi_s3, fi_s4, fi_v0, fi_v1, fi_v2, fi_v3, fi_v4, fi_v5, fi_n0, fi_n1, fi_n2, fi_mm, fi_stat, fi_alds, fi_tsw, List.getElem?_cons_zero, List.getElem?_cons_succ, List.set_cons_zero, List.set_cons_succ, List.length_cons, List.length_nil, Option.toList_some, Option.toList_none, List.cons_append, List.nil_append, Value.category, true_and, k_0, k_1, k_2, k_3, k_4, false_implies, true_implies, reduceCtorEq, hM.1, hM.2.2.1, show 56 + 2 = 58 from rfl, nar_i, i3, i4, i82, a4, nI_clamp (show 52 + Z.2.2.1.2.2 < 2 ^ 31 by omega), nI_clamp (show 66 + Z.2.2.1.2.2 < 2 ^ 31 by omega), k_82, e82, nI_1]
  have hs : ∀ a, a ≠ 58 → fs_u (fs_u (fs_u (fs_u (fs_u σ 58 (24 + Z.2.2.1.2.2) (nI l)) 58 (38 + Z.2.2.1.2.2) (nI y)) 58 (52 + Z.2.2.1.2.2) (bI i)) 58 (66 + Z.2.2.1.2.2) c) 58 82 (nI (Z.2.2.1.2.2 + 1)) a = σ a := fun a ha => by rw [fs_u_ne ha, fs_u_ne ha, fs_u_ne ha, fs_u_ne ha, fs_u_ne ha]
  refine ⟨rfl, _, _, k, none, rfl, ?_, h.tl hs (T' := adS Z.1 Z.2.2.1.2.2 (nI l) (nI y) (bI i) c) (c' := (Z.2.2.1.1, Z.2.2.1.2.1, Z.2.2.1.2.2 + 1)) ?_ (okZ_scn h.2.2.1 n4 hl hy1 hy hc), rfl⟩
  · intro a c hac
    rw [← h0.lo a c hac]
    simp only [fs_u]
    rw [if_neg (by omega), if_neg (by omega), if_neg (by omega), if_neg (by omega), if_neg (by omega)]
  · funext j
    rw [← h.2.1]
    simp only [fs_u, adS]
    by_cases w1 : j = 82
    · rw [if_pos ⟨trivial, w1⟩, if_neg (by omega), if_neg (by omega), if_neg (by omega), if_neg (by omega), if_pos w1]
    · rw [if_neg (fun z => w1 z.2)]
      by_cases w5 : j = 66 + Z.2.2.1.2.2
      · rw [if_pos ⟨trivial, w5⟩, if_neg (by omega), if_neg (by omega), if_neg (by omega), if_pos w5]
      · rw [if_neg (fun z => w5 z.2)]
        by_cases w2 : j = 52 + Z.2.2.1.2.2
        · rw [if_pos ⟨trivial, w2⟩, if_neg (by omega), if_neg (by omega), if_pos w2]
        · rw [if_neg (fun z => w2 z.2)]
          by_cases w3 : j = 38 + Z.2.2.1.2.2
          · rw [if_pos ⟨trivial, w3⟩, if_neg (by omega), if_pos w3]
          · rw [if_neg (fun z => w3 z.2)]
            by_cases w4 : j = 24 + Z.2.2.1.2.2
            · rw [if_pos ⟨trivial, w4⟩, if_pos w4]
            · rw [if_neg (fun z => w4 z.2), if_neg w4, if_neg w3, if_neg w2, if_neg w5, if_neg w1]
/-- behind a fault before the cast -/
theorem l_rs106E (hM : shM S 56) {σ0 : Nat → Nat → Int32} {e : Er} {k0 : Nat} {v1 v2 v3 v4 v5 : Value} (h : MS σ b L Z k (some e)) (h0 : tfM σ0 σ) (hs : sScn b L k0 Z = .inl e) : fs_R g m_X9_readScene d (0, 0) 106 [.ref 56, v1, v2, v3, v4, v5] [] ((S, fr), σ, τ) (rdM S fr τ σ0 b L (pSem b L (sScn b L k0 Z))) := by
  refine S_X9_readScene_106 ?_
  simp only [T_X9_readScene_106, fi_const, fi_iload, fi_aload, fi_istore, fi_astore, fi_iinc, fi_bin, fi_div, fi_un, fi_dup, fi_dup2, fi_pop, fi_if, fi_cmp, fi_getf, fi_putf, fi_putr, fi_ald, fi_ast, fi_alen, fi_iret, fi_zret, fi_vret, fi_cut, fi_no, fi_s0, fi_s1, fi_s2, fi_s3, fi_s4, fi_v0, fi_v1, fi_v2, fi_v3, fi_v4, fi_v5, fi_n0, fi_n1, fi_n2, fi_mm, fi_stat, fi_alds, fi_tsw, List.getElem?_cons_zero, List.getElem?_cons_succ, List.set_cons_zero, List.set_cons_succ, List.length_cons, List.length_nil, Option.toList_some, Option.toList_none, List.cons_append, List.nil_append, Value.category, true_and, k_0, k_1, k_2, k_3, k_4, false_implies, true_implies, reduceCtorEq, hM.1]
  refine ⟨by decide, ⟨_, rfl⟩, (c_readCastE hM h).mono ?_⟩
  rintro r M' ⟨σ1, rfl, f1, ⟨c, rfl⟩, k', f2⟩
  have he := f2.e0
  simp only [fi_const, fi_iload, fi_aload, fi_istore, fi_astore, fi_iinc, fi_bin, fi_div, fi_un, fi_dup, fi_dup2, fi_pop, fi_if, fi_cmp, fi_getf, fi_putf, fi_putr, fi_ald, fi_ast, fi_alen, fi_iret, fi_zret, fi_vret, fi_cut, fi_no, fi_s0, fi_s1, fi_s2, fi_s3, fi_s4, fi_v0, fi_v1, fi_v2, fi_v3, fi_v4, fi_v5, fi_n0, fi_n1, fi_n2, fi_mm, fi_stat, fi_alds, fi_tsw, List.getElem?_cons_zero, List.getElem?_cons_succ, List.set_cons_zero, List.set_cons_succ, List.length_cons, List.length_nil, Option.toList_some, Option.toList_none, List.cons_append, List.nil_append, Value.category, true_and, k_0, k_1, k_2, k_3, k_4, false_implies, true_implies, reduceCtorEq, hM.1]
  refine ⟨fun w => (by cases he.mp w), fun _ => ?_⟩
  rw [hs]
  exact ⟨rfl, σ1, Z, _, some e, rfl, (h0.tr f1).lo, f2, rfl⟩
theorem l_rs106 (hM : shM S 56) {σ0 : Nat → Nat → Int32} {k0 : Nat} {l y : Nat} {i : Bool} {v5 : Value} (h : MS σ b L Z k none) (h0 : tfM σ0 σ) (n4 : Z.2.2.1.2.2 < 14) (hl : l < Z.2.2.1.1) (hy1 : 1 ≤ y) (hy : y ≤ 60) (hs : sScn b L k0 Z = (match pCast b L Z.1 Z.2.2.1.2.1 7 k 0 with
      | .inl e => .inl e
      | .inr (c, k') => .inr ((adS Z.1 Z.2.2.1.2.2 (nI l) (nI y) (bI i) c, Z.2.1, (Z.2.2.1.1, Z.2.2.1.2.1, Z.2.2.1.2.2 + 1), Z.2.2.2.1, Z.2.2.2.2), k'))) : fs_R g m_X9_readScene d (0, 0) 106 [.ref 56, .int (nI Z.2.2.1.2.2), .int (nI l), .int (nI y), .int (bI i), v5] [] ((S, fr), σ, τ) (rdM S fr τ σ0 b L (pSem b L (sScn b L k0 Z))) := by
  refine S_X9_readScene_106 ?_
  simp only [T_X9_readScene_106, fi_const, fi_iload, fi_aload, fi_istore, fi_astore, fi_iinc, fi_bin, fi_div, fi_un, fi_dup, fi_dup2, fi_pop, fi_if, fi_cmp, fi_getf, fi_putf, fi_putr, fi_ald, fi_ast, fi_alen, fi_iret, fi_zret, fi_vret, fi_cut, fi_no, fi_s0, fi_s1, fi_s2, fi_s3, fi_s4, fi_v0, fi_v1, fi_v2, fi_v3, fi_v4, fi_v5, fi_n0, fi_n1, fi_n2, fi_mm, fi_stat, fi_alds, fi_tsw, List.getElem?_cons_zero, List.getElem?_cons_succ, List.set_cons_zero, List.set_cons_succ, List.length_cons, List.length_nil, Option.toList_some, Option.toList_none, List.cons_append, List.nil_append, Value.category, true_and, k_0, k_1, k_2, k_3, k_4, false_implies, true_implies, reduceCtorEq, hM.1]
  refine ⟨by decide, ⟨_, rfl⟩, (c_readCast hM h).mono ?_⟩
  rintro r M' ⟨σ1, rfl, f1, f2⟩
  cases w : pCast b L Z.1 Z.2.2.1.2.1 7 k 0 with
  | inl e =>
    rw [w] at f2 hs
    obtain ⟨⟨c, rfl⟩, k', f2⟩ := f2
    have he := f2.e0
    simp only [fi_const, fi_iload, fi_aload, fi_istore, fi_astore, fi_iinc, fi_bin, fi_div, fi_un, fi_dup, fi_dup2, fi_pop, fi_if, fi_cmp, fi_getf, fi_putf, fi_putr, fi_ald, fi_ast, fi_alen, fi_iret, fi_zret, fi_vret, fi_cut, fi_no, fi_s0, fi_s1, fi_s2, fi_s3, fi_s4, fi_v0, fi_v1, fi_v2, fi_v3, fi_v4, fi_v5, fi_n0, fi_n1, fi_n2, fi_mm, fi_stat, fi_alds, fi_tsw, List.getElem?_cons_zero, List.getElem?_cons_succ, List.set_cons_zero, List.set_cons_succ, List.length_cons, List.length_nil, Option.toList_some, Option.toList_none, List.cons_append, List.nil_append, Value.category, true_and, k_0, k_1, k_2, k_3, k_4, false_implies, true_implies, reduceCtorEq, hM.1]
    refine ⟨fun w => (by cases he.mp w), fun _ => ?_⟩
    rw [hs]
    exact ⟨rfl, σ1, Z, _, some e, rfl, (h0.tr f1).lo, f2, rfl⟩
  | inr p =>
    obtain ⟨c, k'⟩ := p
    rw [w] at f2 hs
    obtain ⟨rfl, f2, f3⟩ := f2
    have e16 := f2.e0.mpr rfl
    have i1 : vp_in (nI (24 + Z.2.2.1.2.2)) 83 := vp_in_nI (by omega) (by decide)
    have i2 : vp_in (nI (38 + Z.2.2.1.2.2)) 83 := vp_in_nI (by omega) (by decide)
    have a1 : (24 : Int32) + nI Z.2.2.1.2.2 = nI (24 + Z.2.2.1.2.2) := nI_add 24 _
    have a2 : (38 : Int32) + nI Z.2.2.1.2.2 = nI (38 + Z.2.2.1.2.2) := nI_add 38 _
    have a3 : (52 : Int32) + nI Z.2.2.1.2.2 = nI (52 + Z.2.2.1.2.2) := nI_add 52 _
    rw [hs]
    simp only [fi_const, fi_iload, fi_aload, fi_istore, fi_astore, fi_iinc, fi_bin, fi_div, fi_un, fi_dup, fi_dup2, fi_pop, fi_if, fi_cmp, fi_getf, fi_putf, fi_putr, fi_ald, fi_ast, fi_alen, fi_iret, fi_zret, fi_vret, fi_cut, fi_no, fi_s0, fi_s1, fi_s2, fi_s3, fi_s4, fi_v0, fi_v1, fi_v2, fi_v3, fi_v4, fi_v5, fi_n0, fi_n1, fi_n2, fi_mm, fi_stat, fi_alds, fi_tsw, List.getElem?_cons_zero, List.getElem?_cons_succ, List.set_cons_zero, List.set_cons_succ, List.length_cons, List.length_nil, Option.toList_some, Option.toList_none, List.cons_append, List.nil_append, Value.category, true_and, k_0, k_1, k_2, k_3, k_4, false_implies, true_implies, reduceCtorEq, hM.1, e16]
    simp only [hM.2.2.1, show 56 + 2 = 58 from rfl, fi_const, fi_iload, fi_aload, fi_istore, fi_astore, fi_iinc, fi_bin, fi_div, fi_un, fi_dup, fi_dup2, fi_pop, fi_if, fi_cmp, fi_getf, fi_putf, fi_putr, fi_ald, fi_ast, fi_alen, fi_iret, fi_zret, fi_vret, fi_cut, fi_no, fi_s0, fi_s1, fi_s2, fi_s3, fi_s4, fi_v0, fi_v1, fi_v2, fi_v3, fi_v4, fi_v5, fi_n0, fi_n1, fi_n2, fi_mm, fi_stat, fi_alds, fi_tsw, List.getElem?_cons_zero, List.getElem?_cons_succ, List.set_cons_zero, List.set_cons_succ, List.length_cons, List.length_nil, Option.toList_some, Option.toList_none, List.cons_append, List.nil_append, Value.category, true_and, k_0, k_1, k_2, k_3, k_4, false_implies, true_implies, reduceCtorEq, a1, a2, a3, i1, i2, nI_clamp (show 24 + Z.2.2.1.2.2 < 2 ^ 31 by omega), nI_clamp (show 38 + Z.2.2.1.2.2 < 2 ^ 31 by omega), nar_i, bI_eq0]
    refine ⟨⟨fun z2 => ?_, fun z2 => ?_⟩, fun w => absurd trivial w⟩
    · subst z2
      exact l_rs158 (i := false) hM f2 (h0.tr f1) n4 hl hy1 hy f3
    · have : i = true := by cases i; exact absurd rfl z2; rfl
      subst this
      exact l_rs158 (i := true) hM f2 (h0.tr f1) n4 hl hy1 hy f3
end PR5
