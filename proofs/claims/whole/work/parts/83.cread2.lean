/-! ===== the loader of the class: actor, cast, scene ===== -/
theorem eNew_none {b : Nat → Nat} {L k : Nat} {T : Nat → Int32} {nL nA : Nat} (w : eNew b L k T nL nA = none) : isNm b L k = true := by
  unfold eNew at w
  by_cases v : isNm b L k = true
  · exact v
  · rw [if_neg v] at w; cases w
theorem eLoc_none {b : Nat → Nat} {L k : Nat} {T : Nat → Int32} {nL : Nat} (w : eLoc b L k T nL = none) : isNm b L k = true ∧ ∃ l, l < nL ∧ fndB T (tN b L k) nL 0 = nI l := by
  unfold eLoc at w
  by_cases v : isNm b L k = true
  · rw [if_pos v] at w
    by_cases u : fndB T (tN b L k) nL 0 = -1
    · rw [if_pos u] at w; cases w
    · rcases fndB_or (f := T) (x := tN b L k) nL 0 with z | ⟨j, h1, h2, h3⟩
      · exact absurd z u
      · exact ⟨v, j, by omega, h3⟩
  · rw [if_neg v] at w; cases w
theorem eInt_none {b : Nat → Nat} {L lo hi k : Nat} (w : eInt b L lo hi k = none) : tK b L k = 2 ∧ lo ≤ tV b L k ∧ tV b L k ≤ hi := by
  unfold eInt at w
  by_cases v : tK b L k = 2
  · rw [if_pos v] at w
    by_cases u : tV b L k < lo ∨ hi < tV b L k
    · rw [if_pos u] at w; cases w
    · omega
  · rw [if_neg v] at w; cases w
section PL3
variable {g : fs_G} {d : Nat} {S : List fs_Sh} {fr : Bool} {σ : Nat → Nat → Int32} {τ : Nat → Nat → Int64} {b : Nat → Nat} {L : Nat} {Z : Zt} {k : Nat}
theorem c_readActor (hS : shL S) (h : LI σ b L Z k) : fs_Ct g m_X2_readActor [.ref 26] ((S, fr), σ, τ) (rdQ S fr τ σ b L (pSem b L (sAct b L k Z))) := by
  obtain ⟨h1, h2, h3, h4, h5⟩ := id h
  have hP := hS.2.2.2.1
  have hnL := h5.1.2.2.2.1
  have hnA := h5.1.2.2.2.2.1
  have hnS := h5.1.2.2.2.2.2.1
  refine fs_enterC (by decide) (by simp [fs_ok]) (Nat.le_of_ble_eq_true rfl) (fun d => S_X2_readActor_0 ?_)
  show T_X2_readActor_0 g d _ [.ref 26, .null, .null] [] _
  simp only [T_X2_readActor_0, fi_const, fi_iload, fi_aload, fi_istore, fi_astore, fi_iinc, fi_bin, fi_div, fi_un, fi_dup, fi_dup2, fi_pop, fi_if, fi_cmp, fi_getf, fi_putf, fi_putr, fi_ald, fi_ast, fi_alen, fi_iret, fi_zret, fi_vret, fi_cut, fi_no, fi_s0, fi_s1, fi_s2, fi_s3, fi_s4, fi_v0, fi_v1, fi_v2, fi_v3, fi_v4, fi_v5, fi_n0, fi_n1, fi_n2, fi_mm, fi_stat, fi_alds, fi_tsw, List.getElem?_cons_zero, List.getElem?_cons_succ, List.set_cons_zero, List.set_cons_succ, List.length_cons, List.length_nil, Option.toList_some, Option.toList_none, List.cons_append, List.nil_append, Value.category, true_and, k_0, k_1, k_2, k_3, k_4, false_implies, true_implies, reduceCtorEq]
  simp only [fi_const, fi_iload, fi_aload, fi_istore, fi_astore, fi_iinc, fi_bin, fi_div, fi_un, fi_dup, fi_dup2, fi_pop, fi_if, fi_cmp, fi_getf, fi_putf, fi_putr, fi_ald, fi_ast, fi_alen, fi_iret, fi_zret, fi_vret, fi_cut, fi_no, fi_s0, fi_s1, fi_s2, fi_s3, fi_s4, fi_v0, fi_v1, fi_v2, fi_v3, fi_v4, fi_v5, fi_n0, fi_n1, fi_n2, fi_mm, fi_stat, fi_alds, fi_tsw, List.getElem?_cons_zero, List.getElem?_cons_succ, List.set_cons_zero, List.set_cons_succ, List.length_cons, List.length_nil, Option.toList_some, Option.toList_none, List.cons_append, List.nil_append, Value.category, true_and, k_0, k_1, k_2, k_3, k_4, false_implies, true_implies, reduceCtorEq, hS.1, hP.1, h4.1.2.1]
  unfold sAct
  refine pk_lt Z.2.2.1.2.1 6 (fun q => ?_) (fun q => ?_)
  · rw [if_neg (by omega)]
    refine ⟨by decide, ⟨_, hS.2.1⟩, (c_adv hS h).mono ?_⟩
    rintro r M' ⟨rfl, σ1, rfl, f1, l1⟩
    have lo1 := loC.tk f1
    simp only [fi_const, fi_iload, fi_aload, fi_istore, fi_astore, fi_iinc, fi_bin, fi_div, fi_un, fi_dup, fi_dup2, fi_pop, fi_if, fi_cmp, fi_getf, fi_putf, fi_putr, fi_ald, fi_ast, fi_alen, fi_iret, fi_zret, fi_vret, fi_cut, fi_no, fi_s0, fi_s1, fi_s2, fi_s3, fi_s4, fi_v0, fi_v1, fi_v2, fi_v3, fi_v4, fi_v5, fi_n0, fi_n1, fi_n2, fi_mm, fi_stat, fi_alds, fi_tsw, List.getElem?_cons_zero, List.getElem?_cons_succ, List.set_cons_zero, List.set_cons_succ, List.length_cons, List.length_nil, Option.toList_some, Option.toList_none, List.cons_append, List.nil_append, Value.category, true_and, k_0, k_1, k_2, k_3, k_4, false_implies, true_implies, reduceCtorEq, hS.1]
    refine ⟨by decide, ⟨_, rfl⟩, (c_takeNewName hS l1).mono ?_⟩
    rintro r M' ⟨σ2, rfl, lo2, hm⟩
    have lo12 := lo1.tr lo2
    cases w : eNew b L (tE b L k) Z.1 Z.2.2.1.1 Z.2.2.1.2.1 with
    | some e =>
      rw [w] at hm
      obtain ⟨rfl, he⟩ := hm
      simp only [fi_const, fi_iload, fi_aload, fi_istore, fi_astore, fi_iinc, fi_bin, fi_div, fi_un, fi_dup, fi_dup2, fi_pop, fi_if, fi_cmp, fi_getf, fi_putf, fi_putr, fi_ald, fi_ast, fi_alen, fi_iret, fi_zret, fi_vret, fi_cut, fi_no, fi_s0, fi_s1, fi_s2, fi_s3, fi_s4, fi_v0, fi_v1, fi_v2, fi_v3, fi_v4, fi_v5, fi_n0, fi_n1, fi_n2, fi_mm, fi_stat, fi_alds, fi_tsw, List.getElem?_cons_zero, List.getElem?_cons_succ, List.set_cons_zero, List.set_cons_succ, List.length_cons, List.length_nil, Option.toList_some, Option.toList_none, List.cons_append, List.nil_append, Value.category, true_and, k_0, k_1, k_2, k_3, k_4, false_implies, true_implies, reduceCtorEq, hS.1]
      refine ⟨?_, fun z => absurd trivial z⟩
      refine S_X2_readActor_48 ?_
      simp only [T_X2_readActor_48, fi_const, fi_iload, fi_aload, fi_istore, fi_astore, fi_iinc, fi_bin, fi_div, fi_un, fi_dup, fi_dup2, fi_pop, fi_if, fi_cmp, fi_getf, fi_putf, fi_putr, fi_ald, fi_ast, fi_alen, fi_iret, fi_zret, fi_vret, fi_cut, fi_no, fi_s0, fi_s1, fi_s2, fi_s3, fi_s4, fi_v0, fi_v1, fi_v2, fi_v3, fi_v4, fi_v5, fi_n0, fi_n1, fi_n2, fi_mm, fi_stat, fi_alds, fi_tsw, List.getElem?_cons_zero, List.getElem?_cons_succ, List.set_cons_zero, List.set_cons_succ, List.length_cons, List.length_nil, Option.toList_some, Option.toList_none, List.cons_append, List.nil_append, Value.category, true_and, k_0, k_1, k_2, k_3, k_4, false_implies, true_implies, reduceCtorEq]
      refine ⟨?_, fun z => absurd trivial z⟩
      exact ⟨Or.inl trivial, σ2, rfl, lo12, rfl, he⟩
    | none =>
      rw [w] at hm
      obtain ⟨rfl, l2⟩ := hm
      have hnm := isNm_1 (eNew_none w)
      simp only [fi_const, fi_iload, fi_aload, fi_istore, fi_astore, fi_iinc, fi_bin, fi_div, fi_un, fi_dup, fi_dup2, fi_pop, fi_if, fi_cmp, fi_getf, fi_putf, fi_putr, fi_ald, fi_ast, fi_alen, fi_iret, fi_zret, fi_vret, fi_cut, fi_no, fi_s0, fi_s1, fi_s2, fi_s3, fi_s4, fi_v0, fi_v1, fi_v2, fi_v3, fi_v4, fi_v5, fi_n0, fi_n1, fi_n2, fi_mm, fi_stat, fi_alds, fi_tsw, List.getElem?_cons_zero, List.getElem?_cons_succ, List.set_cons_zero, List.set_cons_succ, List.length_cons, List.length_nil, Option.toList_some, Option.toList_none, List.cons_append, List.nil_append, Value.category, true_and, k_0, k_1, k_2, k_3, k_4, false_implies, true_implies, reduceCtorEq, hS.1]
      refine ⟨fun z => absurd z (tN_m1 l1.2.1 hnm), fun _ => ⟨by decide, ⟨_, rfl⟩, (c_takeInteger (lo := 0) (hi := 9999) hS l2 (by decide) (by decide)).mono ?_⟩⟩
      rintro r M' ⟨σ3, rfl, lo3, hm⟩
      have lo13 := lo12.tr lo3
      cases w2 : eInt b L 0 9999 (tE b L (tE b L k)) with
      | some e =>
        rw [w2] at hm
        obtain ⟨rfl, he⟩ := hm
        simp only [fi_const, fi_iload, fi_aload, fi_istore, fi_astore, fi_iinc, fi_bin, fi_div, fi_un, fi_dup, fi_dup2, fi_pop, fi_if, fi_cmp, fi_getf, fi_putf, fi_putr, fi_ald, fi_ast, fi_alen, fi_iret, fi_zret, fi_vret, fi_cut, fi_no, fi_s0, fi_s1, fi_s2, fi_s3, fi_s4, fi_v0, fi_v1, fi_v2, fi_v3, fi_v4, fi_v5, fi_n0, fi_n1, fi_n2, fi_mm, fi_stat, fi_alds, fi_tsw, List.getElem?_cons_zero, List.getElem?_cons_succ, List.set_cons_zero, List.set_cons_succ, List.length_cons, List.length_nil, Option.toList_some, Option.toList_none, List.cons_append, List.nil_append, Value.category, true_and, k_0, k_1, k_2, k_3, k_4, false_implies, true_implies, reduceCtorEq]
        refine S_X2_readActor_48 ?_
        simp only [T_X2_readActor_48, fi_const, fi_iload, fi_aload, fi_istore, fi_astore, fi_iinc, fi_bin, fi_div, fi_un, fi_dup, fi_dup2, fi_pop, fi_if, fi_cmp, fi_getf, fi_putf, fi_putr, fi_ald, fi_ast, fi_alen, fi_iret, fi_zret, fi_vret, fi_cut, fi_no, fi_s0, fi_s1, fi_s2, fi_s3, fi_s4, fi_v0, fi_v1, fi_v2, fi_v3, fi_v4, fi_v5, fi_n0, fi_n1, fi_n2, fi_mm, fi_stat, fi_alds, fi_tsw, List.getElem?_cons_zero, List.getElem?_cons_succ, List.set_cons_zero, List.set_cons_succ, List.length_cons, List.length_nil, Option.toList_some, Option.toList_none, List.cons_append, List.nil_append, Value.category, true_and, k_0, k_1, k_2, k_3, k_4, false_implies, true_implies, reduceCtorEq]
        refine ⟨?_, fun z => absurd trivial z⟩
        exact ⟨Or.inl trivial, σ3, rfl, lo13, rfl, he⟩
      | none =>
        rw [w2] at hm
        obtain ⟨rfl, l3⟩ := hm
        obtain ⟨-, -, hv2⟩ := eInt_none w2
        simp only [fi_const, fi_iload, fi_aload, fi_istore, fi_astore, fi_iinc, fi_bin, fi_div, fi_un, fi_dup, fi_dup2, fi_pop, fi_if, fi_cmp, fi_getf, fi_putf, fi_putr, fi_ald, fi_ast, fi_alen, fi_iret, fi_zret, fi_vret, fi_cut, fi_no, fi_s0, fi_s1, fi_s2, fi_s3, fi_s4, fi_v0, fi_v1, fi_v2, fi_v3, fi_v4, fi_v5, fi_n0, fi_n1, fi_n2, fi_mm, fi_stat, fi_alds, fi_tsw, List.getElem?_cons_zero, List.getElem?_cons_succ, List.set_cons_zero, List.set_cons_succ, List.length_cons, List.length_nil, Option.toList_some, Option.toList_none, List.cons_append, List.nil_append, Value.category, true_and, k_0, k_1, k_2, k_3, k_4, false_implies, true_implies, reduceCtorEq]
        refine S_X2_readActor_48 ?_
        simp only [T_X2_readActor_48, fi_const, fi_iload, fi_aload, fi_istore, fi_astore, fi_iinc, fi_bin, fi_div, fi_un, fi_dup, fi_dup2, fi_pop, fi_if, fi_cmp, fi_getf, fi_putf, fi_putr, fi_ald, fi_ast, fi_alen, fi_iret, fi_zret, fi_vret, fi_cut, fi_no, fi_s0, fi_s1, fi_s2, fi_s3, fi_s4, fi_v0, fi_v1, fi_v2, fi_v3, fi_v4, fi_v5, fi_n0, fi_n1, fi_n2, fi_mm, fi_stat, fi_alds, fi_tsw, List.getElem?_cons_zero, List.getElem?_cons_succ, List.set_cons_zero, List.set_cons_succ, List.length_cons, List.length_nil, Option.toList_some, Option.toList_none, List.cons_append, List.nil_append, Value.category, true_and, k_0, k_1, k_2, k_3, k_4, false_implies, true_implies, reduceCtorEq, hS.1]
        refine ⟨fun z => absurd z (nI_m1 (by omega)), fun _ => ⟨by decide, ⟨_, hP.1⟩, (c_addActor hP q l3.2.2.2.1.1.2.1 _ _).mono ?_⟩⟩
        rintro r M' ⟨rfl, rfl⟩
        simp only [fi_const, fi_iload, fi_aload, fi_istore, fi_astore, fi_iinc, fi_bin, fi_div, fi_un, fi_dup, fi_dup2, fi_pop, fi_if, fi_cmp, fi_getf, fi_putf, fi_putr, fi_ald, fi_ast, fi_alen, fi_iret, fi_zret, fi_vret, fi_cut, fi_no, fi_s0, fi_s1, fi_s2, fi_s3, fi_s4, fi_v0, fi_v1, fi_v2, fi_v3, fi_v4, fi_v5, fi_n0, fi_n1, fi_n2, fi_mm, fi_stat, fi_alds, fi_tsw, List.getElem?_cons_zero, List.getElem?_cons_succ, List.set_cons_zero, List.set_cons_succ, List.length_cons, List.length_nil, Option.toList_some, Option.toList_none, List.cons_append, List.nil_append, Value.category, true_and, k_0, k_1, k_2, k_3, k_4, false_implies, true_implies, reduceCtorEq, hS.1]
        have hZ' := okZ_act (gs := Z.2.2.2.1) (dg := Z.2.2.2.2) h5 q (x := tN b L (tE b L k)) hv2
        refine ⟨by decide, ⟨_, rfl⟩, (c_takeSemi hS (l3.mem (fun a ha => ?_) (DC_act l3.2.2.2.1 hnL q hnS) hZ')).mono ?_⟩
        · rw [fs_u_ne (by omega), fs_u_ne (by omega), fs_u_ne (by omega)]
        intro r M' hr
        obtain ⟨x, rfl, hx⟩ := hr.z
        simp only [fi_const, fi_iload, fi_aload, fi_istore, fi_astore, fi_iinc, fi_bin, fi_div, fi_un, fi_dup, fi_dup2, fi_pop, fi_if, fi_cmp, fi_getf, fi_putf, fi_putr, fi_ald, fi_ast, fi_alen, fi_iret, fi_zret, fi_vret, fi_cut, fi_no, fi_s0, fi_s1, fi_s2, fi_s3, fi_s4, fi_v0, fi_v1, fi_v2, fi_v3, fi_v4, fi_v5, fi_n0, fi_n1, fi_n2, fi_mm, fi_stat, fi_alds, fi_tsw, List.getElem?_cons_zero, List.getElem?_cons_succ, List.set_cons_zero, List.set_cons_succ, List.length_cons, List.length_nil, Option.toList_some, Option.toList_none, List.cons_append, List.nil_append, Value.category, true_and, k_0, k_1, k_2, k_3, k_4, false_implies, true_implies, reduceCtorEq]
        refine ⟨hx, rdQ.tr (lo13.tr ?_) hr⟩
        exact ((loC.u (by decide) (by decide)).tr (loC.u (by decide) (by decide))).tr (loC.u (by decide) (by decide))
  · rw [if_pos (by omega)]
    refine ⟨by decide, ⟨_, rfl⟩, (c_fail hS h3.2.1 (-17)).mono ?_⟩
    rintro r M' ⟨rfl, σ', rfl, f1, f2⟩
    simp only [fi_const, fi_iload, fi_aload, fi_istore, fi_astore, fi_iinc, fi_bin, fi_div, fi_un, fi_dup, fi_dup2, fi_pop, fi_if, fi_cmp, fi_getf, fi_putf, fi_putr, fi_ald, fi_ast, fi_alen, fi_iret, fi_zret, fi_vret, fi_cut, fi_no, fi_s0, fi_s1, fi_s2, fi_s3, fi_s4, fi_v0, fi_v1, fi_v2, fi_v3, fi_v4, fi_v5, fi_n0, fi_n1, fi_n2, fi_mm, fi_stat, fi_alds, fi_tsw, List.getElem?_cons_zero, List.getElem?_cons_succ, List.set_cons_zero, List.set_cons_succ, List.length_cons, List.length_nil, Option.toList_some, Option.toList_none, List.cons_append, List.nil_append, Value.category, true_and, k_0, k_1, k_2, k_3, k_4, false_implies, true_implies, reduceCtorEq]
    exact ⟨Or.inl trivial, σ', rfl, f1, rfl, f2⟩
def caQ (S : List fs_Sh) (fr : Bool) (τ : Nat → Nat → Int64) (σ : Nat → Nat → Int32) (b : Nat → Nat) (L : Nat) (Z : Zt) (o : Er ⊕ (Int32 × Nat)) : Option Value → fs_M → Prop := fun r M' => ∃ σ', M' = ((S, fr), σ', τ) ∧ loC σ σ' ∧ (match o with | .inl e => r = some (.int (-1)) ∧ ER σ' e | .inr (c, k) => r = some (.int c) ∧ LI σ' b L Z k ∧ ∀ i, Z.2.2.1.2.1 ≤ i → bt c i = false)
theorem ct_bit {c : Int32} {j n : Nat} (hj : j < n) (hn : n ≤ 32) (h : bt c j = false) : ct (bt (c ||| 1 <<< (nI j &&& 31))) n = ct (bt c) n + 1 := by
  have e := ct_or1 (bt c) j n
  rw [if_pos ⟨hj, h⟩] at e
  rw [← e]
  refine ct_congr (fun i hi => ?_)
  rw [bt_or1 (by omega) (by omega)]
  congr 1
  exact decide_eq_decide.mpr eq_comm
theorem l_takeCast (hS : shL S) : ∀ n k c t σ z, t + n = 7 → LI σ b L Z k → ct (bt c) Z.2.2.1.2.1 = t → (∀ i, Z.2.2.1.2.1 ≤ i → bt c i = false) → fs_R g m_X2_takeCast d (0, 0) 4 [.ref 26, .int c, .int (nI t), z] [] ((S, fr), σ, τ) (caQ S fr τ σ b L Z (pCast b L Z.1 Z.2.2.1.2.1 n k c))
  | 0, k, c, t, σ, z, ht, h, hc, hb => by
    have hA := h.2.2.2.2.1.2.2.2.2.1
    have := ct_le (bt c) Z.2.2.1.2.1
    omega
  | n + 1, k, c, t, σ, z, ht, h, hc, hb => by
    obtain ⟨h1, h2, h3, h4, h5⟩ := id h
    have hP := hS.2.2.2.1
    have hA := h5.1.2.2.2.2.1
    have hle := ct_le (bt c) Z.2.2.1.2.1
    have hk4 := tK_le b L k
    refine S_X2_takeCast_4 ?_
    simp only [T_X2_takeCast_4, fi_const, fi_iload, fi_aload, fi_istore, fi_astore, fi_iinc, fi_bin, fi_div, fi_un, fi_dup, fi_dup2, fi_pop, fi_if, fi_cmp, fi_getf, fi_putf, fi_putr, fi_ald, fi_ast, fi_alen, fi_iret, fi_zret, fi_vret, fi_cut, fi_no, fi_s0, fi_s1, fi_s2, fi_s3, fi_s4, fi_v0, fi_v1, fi_v2, fi_v3, fi_v4, fi_v5, fi_n0, fi_n1, fi_n2, fi_mm, fi_stat, fi_alds, fi_tsw, List.getElem?_cons_zero, List.getElem?_cons_succ, List.set_cons_zero, List.set_cons_succ, List.length_cons, List.length_nil, Option.toList_some, Option.toList_none, List.cons_append, List.nil_append, Value.category, true_and, k_0, k_1, k_2, k_3, k_4, false_implies, true_implies, reduceCtorEq, hS.1, hS.2.1, h3.1]
    simp only [pCast]
    refine pk_lt 6 t (fun w => by omega) (fun _ => pk_eq (tK b L k) 3 (fun q => ?_) (fun q => ?_))
    · rw [if_pos q]
      exact ⟨σ, rfl, loC.rf, rfl, h, hb⟩
    · rw [if_neg q]
      refine ⟨by decide, ⟨_, rfl⟩, (c_isName hS h1 h2 h3).mono ?_⟩
      rintro r M' ⟨rfl, rfl⟩
      simp only [fi_const, fi_iload, fi_aload, fi_istore, fi_astore, fi_iinc, fi_bin, fi_div, fi_un, fi_dup, fi_dup2, fi_pop, fi_if, fi_cmp, fi_getf, fi_putf, fi_putr, fi_ald, fi_ast, fi_alen, fi_iret, fi_zret, fi_vret, fi_cut, fi_no, fi_s0, fi_s1, fi_s2, fi_s3, fi_s4, fi_v0, fi_v1, fi_v2, fi_v3, fi_v4, fi_v5, fi_n0, fi_n1, fi_n2, fi_mm, fi_stat, fi_alds, fi_tsw, List.getElem?_cons_zero, List.getElem?_cons_succ, List.set_cons_zero, List.set_cons_succ, List.length_cons, List.length_nil, Option.toList_some, Option.toList_none, List.cons_append, List.nil_append, Value.category, true_and, k_0, k_1, k_2, k_3, k_4, false_implies, true_implies, reduceCtorEq, bI_eq0, hS.1]
      refine ⟨fun q2 => ?_, fun q2 => ?_⟩
      · rw [if_neg (by rw [q2]; decide)]
        refine ⟨by decide, ⟨_, rfl⟩, (c_failed hS h3.2.1 (-11)).mono ?_⟩
        rintro r M' ⟨rfl, σ', rfl, f1, f2⟩
        simp only [fi_const, fi_iload, fi_aload, fi_istore, fi_astore, fi_iinc, fi_bin, fi_div, fi_un, fi_dup, fi_dup2, fi_pop, fi_if, fi_cmp, fi_getf, fi_putf, fi_putr, fi_ald, fi_ast, fi_alen, fi_iret, fi_zret, fi_vret, fi_cut, fi_no, fi_s0, fi_s1, fi_s2, fi_s3, fi_s4, fi_v0, fi_v1, fi_v2, fi_v3, fi_v4, fi_v5, fi_n0, fi_n1, fi_n2, fi_mm, fi_stat, fi_alds, fi_tsw, List.getElem?_cons_zero, List.getElem?_cons_succ, List.set_cons_zero, List.set_cons_succ, List.length_cons, List.length_nil, Option.toList_some, Option.toList_none, List.cons_append, List.nil_append, Value.category, true_and, k_0, k_1, k_2, k_3, k_4, false_implies, true_implies, reduceCtorEq]
        exact ⟨σ', rfl, f1, rfl, f2⟩
      · have q' : isNm b L k = true := by cases w : isNm b L k; exact absurd w q2; rfl
        rw [if_pos q']
        refine ⟨Nat.le_of_ble_eq_true rfl, ⟨_, hS.2.1⟩, (c_letters hS h1 h2 h3 (isNm_1 q')).mono ?_⟩
        rintro r M' ⟨rfl, rfl⟩
        simp only [fi_const, fi_iload, fi_aload, fi_istore, fi_astore, fi_iinc, fi_bin, fi_div, fi_un, fi_dup, fi_dup2, fi_pop, fi_if, fi_cmp, fi_getf, fi_putf, fi_putr, fi_ald, fi_ast, fi_alen, fi_iret, fi_zret, fi_vret, fi_cut, fi_no, fi_s0, fi_s1, fi_s2, fi_s3, fi_s4, fi_v0, fi_v1, fi_v2, fi_v3, fi_v4, fi_v5, fi_n0, fi_n1, fi_n2, fi_mm, fi_stat, fi_alds, fi_tsw, List.getElem?_cons_zero, List.getElem?_cons_succ, List.set_cons_zero, List.set_cons_succ, List.length_cons, List.length_nil, Option.toList_some, Option.toList_none, List.cons_append, List.nil_append, Value.category, true_and, k_0, k_1, k_2, k_3, k_4, false_implies, true_implies, reduceCtorEq, hS.1]
        refine ⟨by decide, ⟨_, hP.1⟩, (c_actorWithName hP (tN b L k) hA h4.1.2.1).mono ?_⟩
        rintro r M' ⟨rfl, rfl⟩
        have eA : fndB (σ (27 + 4)) (tN b L k) Z.2.2.1.2.1 0 = fndB (fr_ Z.1 12) (tN b L k) Z.2.2.1.2.1 0 := fndB_congr _ _ (fun j hj => (h4.2.2.1 j (by omega)).1)
        rw [eA]
        simp only [fi_const, fi_iload, fi_aload, fi_istore, fi_astore, fi_iinc, fi_bin, fi_div, fi_un, fi_dup, fi_dup2, fi_pop, fi_if, fi_cmp, fi_getf, fi_putf, fi_putr, fi_ald, fi_ast, fi_alen, fi_iret, fi_zret, fi_vret, fi_cut, fi_no, fi_s0, fi_s1, fi_s2, fi_s3, fi_s4, fi_v0, fi_v1, fi_v2, fi_v3, fi_v4, fi_v5, fi_n0, fi_n1, fi_n2, fi_mm, fi_stat, fi_alds, fi_tsw, List.getElem?_cons_zero, List.getElem?_cons_succ, List.set_cons_zero, List.set_cons_succ, List.length_cons, List.length_nil, Option.toList_some, Option.toList_none, List.cons_append, List.nil_append, Value.category, true_and, k_0, k_1, k_2, k_3, k_4, false_implies, true_implies, reduceCtorEq, hS.1]
        refine ⟨fun q3 => ?_, fun q3 => ?_⟩
        · rw [if_pos q3]
          refine ⟨by decide, ⟨_, rfl⟩, (c_failed hS h3.2.1 (-13)).mono ?_⟩
          rintro r M' ⟨rfl, σ', rfl, f1, f2⟩
          simp only [fi_const, fi_iload, fi_aload, fi_istore, fi_astore, fi_iinc, fi_bin, fi_div, fi_un, fi_dup, fi_dup2, fi_pop, fi_if, fi_cmp, fi_getf, fi_putf, fi_putr, fi_ald, fi_ast, fi_alen, fi_iret, fi_zret, fi_vret, fi_cut, fi_no, fi_s0, fi_s1, fi_s2, fi_s3, fi_s4, fi_v0, fi_v1, fi_v2, fi_v3, fi_v4, fi_v5, fi_n0, fi_n1, fi_n2, fi_mm, fi_stat, fi_alds, fi_tsw, List.getElem?_cons_zero, List.getElem?_cons_succ, List.set_cons_zero, List.set_cons_succ, List.length_cons, List.length_nil, Option.toList_some, Option.toList_none, List.cons_append, List.nil_append, Value.category, true_and, k_0, k_1, k_2, k_3, k_4, false_implies, true_implies, reduceCtorEq]
          exact ⟨σ', rfl, f1, rfl, f2⟩
        · rw [if_neg q3]
          rcases fndB_or (f := fr_ Z.1 12) (x := tN b L k) Z.2.2.1.2.1 0 with w | ⟨j, j1, j2, ej⟩
          · exact absurd w q3
          rw [ej, nI_clamp (by omega)]
          refine ⟨by decide, (c_has c (show j < 32 by omega)).mono ?_⟩
          rintro r M' ⟨rfl, rfl⟩
          simp only [fi_const, fi_iload, fi_aload, fi_istore, fi_astore, fi_iinc, fi_bin, fi_div, fi_un, fi_dup, fi_dup2, fi_pop, fi_if, fi_cmp, fi_getf, fi_putf, fi_putr, fi_ald, fi_ast, fi_alen, fi_iret, fi_zret, fi_vret, fi_cut, fi_no, fi_s0, fi_s1, fi_s2, fi_s3, fi_s4, fi_v0, fi_v1, fi_v2, fi_v3, fi_v4, fi_v5, fi_n0, fi_n1, fi_n2, fi_mm, fi_stat, fi_alds, fi_tsw, List.getElem?_cons_zero, List.getElem?_cons_succ, List.set_cons_zero, List.set_cons_succ, List.length_cons, List.length_nil, Option.toList_some, Option.toList_none, List.cons_append, List.nil_append, Value.category, true_and, k_0, k_1, k_2, k_3, k_4, false_implies, true_implies, reduceCtorEq, bI_eq0, hS.1]
          refine ⟨fun q4 => ?_, fun q4 => ?_⟩
          · rw [if_neg (by rw [q4]; decide)]
            refine ⟨by decide, ⟨_, hS.2.1⟩, (c_adv hS h).mono ?_⟩
            rintro r M' ⟨rfl, σ1, rfl, f1, l1⟩
            simp only [fi_const, fi_iload, fi_aload, fi_istore, fi_astore, fi_iinc, fi_bin, fi_div, fi_un, fi_dup, fi_dup2, fi_pop, fi_if, fi_cmp, fi_getf, fi_putf, fi_putr, fi_ald, fi_ast, fi_alen, fi_iret, fi_zret, fi_vret, fi_cut, fi_no, fi_s0, fi_s1, fi_s2, fi_s3, fi_s4, fi_v0, fi_v1, fi_v2, fi_v3, fi_v4, fi_v5, fi_n0, fi_n1, fi_n2, fi_mm, fi_stat, fi_alds, fi_tsw, List.getElem?_cons_zero, List.getElem?_cons_succ, List.set_cons_zero, List.set_cons_succ, List.length_cons, List.length_nil, Option.toList_some, Option.toList_none, List.cons_append, List.nil_append, Value.category, true_and, k_0, k_1, k_2, k_3, k_4, false_implies, true_implies, reduceCtorEq, nI_1]
            refine fs_R_mono (l_takeCast hS n (tE b L k) (c ||| 1 <<< (nI j &&& 31)) (t + 1) σ1 (.int (nI j)) (by omega) l1 (by rw [ct_bit (by omega) (by omega) q4, hc]) (fun i hi => ?_)) ?_
            · by_cases y : i < 32
              · rw [bt_or1 (by omega) y, hb i hi, decide_eq_false (by omega)]; rfl
              · exact bt_ge _ (by omega)
            rintro r M' ⟨σ', e, f2, f3⟩
            exact ⟨σ', e, (loC.tk f1).tr f2, f3⟩
          · have q4' : bt c j = true := by cases w : bt c j; exact absurd w q4; rfl
            rw [if_pos q4']
            refine ⟨by decide, ⟨_, rfl⟩, (c_failed hS h3.2.1 (-14)).mono ?_⟩
            rintro r M' ⟨rfl, σ', rfl, f1, f2⟩
            simp only [fi_const, fi_iload, fi_aload, fi_istore, fi_astore, fi_iinc, fi_bin, fi_div, fi_un, fi_dup, fi_dup2, fi_pop, fi_if, fi_cmp, fi_getf, fi_putf, fi_putr, fi_ald, fi_ast, fi_alen, fi_iret, fi_zret, fi_vret, fi_cut, fi_no, fi_s0, fi_s1, fi_s2, fi_s3, fi_s4, fi_v0, fi_v1, fi_v2, fi_v3, fi_v4, fi_v5, fi_n0, fi_n1, fi_n2, fi_mm, fi_stat, fi_alds, fi_tsw, List.getElem?_cons_zero, List.getElem?_cons_succ, List.set_cons_zero, List.set_cons_succ, List.length_cons, List.length_nil, Option.toList_some, Option.toList_none, List.cons_append, List.nil_append, Value.category, true_and, k_0, k_1, k_2, k_3, k_4, false_implies, true_implies, reduceCtorEq]
            exact ⟨σ', rfl, f1, rfl, f2⟩
theorem c_takeCast (hS : shL S) (h : LI σ b L Z k) : fs_Ct g m_X2_takeCast [.ref 26] ((S, fr), σ, τ) (caQ S fr τ σ b L Z (pCast b L Z.1 Z.2.2.1.2.1 7 k 0)) := by
  refine fs_enterC (by decide) (by simp [fs_ok]) (Nat.le_of_ble_eq_true rfl) (fun d => S_X2_takeCast_0 ?_)
  show T_X2_takeCast_0 g d _ [.ref 26, .null, .null, .null] [] _
  simp only [T_X2_takeCast_0, fi_const, fi_iload, fi_aload, fi_istore, fi_astore, fi_iinc, fi_bin, fi_div, fi_un, fi_dup, fi_dup2, fi_pop, fi_if, fi_cmp, fi_getf, fi_putf, fi_putr, fi_ald, fi_ast, fi_alen, fi_iret, fi_zret, fi_vret, fi_cut, fi_no, fi_s0, fi_s1, fi_s2, fi_s3, fi_s4, fi_v0, fi_v1, fi_v2, fi_v3, fi_v4, fi_v5, fi_n0, fi_n1, fi_n2, fi_mm, fi_stat, fi_alds, fi_tsw, List.getElem?_cons_zero, List.getElem?_cons_succ, List.set_cons_zero, List.set_cons_succ, List.length_cons, List.length_nil, Option.toList_some, Option.toList_none, List.cons_append, List.nil_append, Value.category, true_and, k_0, k_1, k_2, k_3, k_4, false_implies, true_implies, reduceCtorEq]
  refine l_takeCast hS 7 k 0 0 σ .null rfl h ?_ (fun i _ => bt_zero i)
  rw [show (bt 0) = (fun _ => false) from funext bt_zero]; exact ct_zero _
theorem c_readScene (hS : shL S) (h : LI σ b L Z k) : fs_Ct g m_X2_readScene [.ref 26] ((S, fr), σ, τ) (rdQ S fr τ σ b L (pSem b L (sScn b L k Z))) := by
  obtain ⟨h1, h2, h3, h4, h5⟩ := id h
  have hP := hS.2.2.2.1
  have hnL := h5.1.2.2.2.1
  have hnA := h5.1.2.2.2.2.1
  have hnS := h5.1.2.2.2.2.2.1
  refine fs_enterC (by decide) (by simp [fs_ok]) (Nat.le_of_ble_eq_true rfl) (fun d => S_X2_readScene_0 ?_)
  show T_X2_readScene_0 g d _ [.ref 26, .null, .null, .null, .null] [] _
  simp only [T_X2_readScene_0, fi_const, fi_iload, fi_aload, fi_istore, fi_astore, fi_iinc, fi_bin, fi_div, fi_un, fi_dup, fi_dup2, fi_pop, fi_if, fi_cmp, fi_getf, fi_putf, fi_putr, fi_ald, fi_ast, fi_alen, fi_iret, fi_zret, fi_vret, fi_cut, fi_no, fi_s0, fi_s1, fi_s2, fi_s3, fi_s4, fi_v0, fi_v1, fi_v2, fi_v3, fi_v4, fi_v5, fi_n0, fi_n1, fi_n2, fi_mm, fi_stat, fi_alds, fi_tsw, List.getElem?_cons_zero, List.getElem?_cons_succ, List.set_cons_zero, List.set_cons_succ, List.length_cons, List.length_nil, Option.toList_some, Option.toList_none, List.cons_append, List.nil_append, Value.category, true_and, k_0, k_1, k_2, k_3, k_4, false_implies, true_implies, reduceCtorEq]
  simp only [fi_const, fi_iload, fi_aload, fi_istore, fi_astore, fi_iinc, fi_bin, fi_div, fi_un, fi_dup, fi_dup2, fi_pop, fi_if, fi_cmp, fi_getf, fi_putf, fi_putr, fi_ald, fi_ast, fi_alen, fi_iret, fi_zret, fi_vret, fi_cut, fi_no, fi_s0, fi_s1, fi_s2, fi_s3, fi_s4, fi_v0, fi_v1, fi_v2, fi_v3, fi_v4, fi_v5, fi_n0, fi_n1, fi_n2, fi_mm, fi_stat, fi_alds, fi_tsw, List.getElem?_cons_zero, List.getElem?_cons_succ, List.set_cons_zero, List.set_cons_succ, List.length_cons, List.length_nil, Option.toList_some, Option.toList_none, List.cons_append, List.nil_append, Value.category, true_and, k_0, k_1, k_2, k_3, k_4, false_implies, true_implies, reduceCtorEq, hS.1, hP.1, h4.1.2.2]
  unfold sScn
  refine pk_lt Z.2.2.1.2.2 14 (fun q => ?_) (fun q => ?_)
  · rw [if_neg (by omega)]
    refine ⟨by decide, ⟨_, hS.2.1⟩, (c_adv hS h).mono ?_⟩
    rintro r M' ⟨rfl, σ1, rfl, f1, l1⟩
    have lo1 := loC.tk f1
    simp only [fi_const, fi_iload, fi_aload, fi_istore, fi_astore, fi_iinc, fi_bin, fi_div, fi_un, fi_dup, fi_dup2, fi_pop, fi_if, fi_cmp, fi_getf, fi_putf, fi_putr, fi_ald, fi_ast, fi_alen, fi_iret, fi_zret, fi_vret, fi_cut, fi_no, fi_s0, fi_s1, fi_s2, fi_s3, fi_s4, fi_v0, fi_v1, fi_v2, fi_v3, fi_v4, fi_v5, fi_n0, fi_n1, fi_n2, fi_mm, fi_stat, fi_alds, fi_tsw, List.getElem?_cons_zero, List.getElem?_cons_succ, List.set_cons_zero, List.set_cons_succ, List.length_cons, List.length_nil, Option.toList_some, Option.toList_none, List.cons_append, List.nil_append, Value.category, true_and, k_0, k_1, k_2, k_3, k_4, false_implies, true_implies, reduceCtorEq, hS.1]
    refine ⟨by decide, ⟨_, rfl⟩, (c_takeLocation hS l1).mono ?_⟩
    rintro r M' ⟨σ2, rfl, lo2, hm⟩
    have lo12 := lo1.tr lo2
    cases w : eLoc b L (tE b L k) Z.1 Z.2.2.1.1 with
    | some e =>
      rw [w] at hm
      obtain ⟨rfl, he⟩ := hm
      simp only [fi_const, fi_iload, fi_aload, fi_istore, fi_astore, fi_iinc, fi_bin, fi_div, fi_un, fi_dup, fi_dup2, fi_pop, fi_if, fi_cmp, fi_getf, fi_putf, fi_putr, fi_ald, fi_ast, fi_alen, fi_iret, fi_zret, fi_vret, fi_cut, fi_no, fi_s0, fi_s1, fi_s2, fi_s3, fi_s4, fi_v0, fi_v1, fi_v2, fi_v3, fi_v4, fi_v5, fi_n0, fi_n1, fi_n2, fi_mm, fi_stat, fi_alds, fi_tsw, List.getElem?_cons_zero, List.getElem?_cons_succ, List.set_cons_zero, List.set_cons_succ, List.length_cons, List.length_nil, Option.toList_some, Option.toList_none, List.cons_append, List.nil_append, Value.category, true_and, k_0, k_1, k_2, k_3, k_4, false_implies, true_implies, reduceCtorEq, hS.1]
      refine ⟨?_, fun z => absurd trivial z⟩
      refine S_X2_readScene_47 ?_
      simp only [T_X2_readScene_47, fi_const, fi_iload, fi_aload, fi_istore, fi_astore, fi_iinc, fi_bin, fi_div, fi_un, fi_dup, fi_dup2, fi_pop, fi_if, fi_cmp, fi_getf, fi_putf, fi_putr, fi_ald, fi_ast, fi_alen, fi_iret, fi_zret, fi_vret, fi_cut, fi_no, fi_s0, fi_s1, fi_s2, fi_s3, fi_s4, fi_v0, fi_v1, fi_v2, fi_v3, fi_v4, fi_v5, fi_n0, fi_n1, fi_n2, fi_mm, fi_stat, fi_alds, fi_tsw, List.getElem?_cons_zero, List.getElem?_cons_succ, List.set_cons_zero, List.set_cons_succ, List.length_cons, List.length_nil, Option.toList_some, Option.toList_none, List.cons_append, List.nil_append, Value.category, true_and, k_0, k_1, k_2, k_3, k_4, false_implies, true_implies, reduceCtorEq]
      refine ⟨?_, fun z => absurd trivial z⟩
      exact ⟨Or.inl trivial, σ2, rfl, lo12, rfl, he⟩
    | none =>
      rw [w] at hm
      obtain ⟨rfl, l2⟩ := hm
      obtain ⟨-, l, hl, el⟩ := eLoc_none w
      rw [el]
      simp only [fi_const, fi_iload, fi_aload, fi_istore, fi_astore, fi_iinc, fi_bin, fi_div, fi_un, fi_dup, fi_dup2, fi_pop, fi_if, fi_cmp, fi_getf, fi_putf, fi_putr, fi_ald, fi_ast, fi_alen, fi_iret, fi_zret, fi_vret, fi_cut, fi_no, fi_s0, fi_s1, fi_s2, fi_s3, fi_s4, fi_v0, fi_v1, fi_v2, fi_v3, fi_v4, fi_v5, fi_n0, fi_n1, fi_n2, fi_mm, fi_stat, fi_alds, fi_tsw, List.getElem?_cons_zero, List.getElem?_cons_succ, List.set_cons_zero, List.set_cons_succ, List.length_cons, List.length_nil, Option.toList_some, Option.toList_none, List.cons_append, List.nil_append, Value.category, true_and, k_0, k_1, k_2, k_3, k_4, false_implies, true_implies, reduceCtorEq, hS.1]
      refine ⟨fun z => absurd z (nI_m1 (by omega)), fun _ => ⟨by decide, ⟨_, rfl⟩, (c_takeInteger (lo := 1) (hi := 60) hS l2 (by decide) (by decide)).mono ?_⟩⟩
      rintro r M' ⟨σ3, rfl, lo3, hm⟩
      have lo13 := lo12.tr lo3
      cases w2 : eInt b L 1 60 (tE b L (tE b L k)) with
      | some e =>
        rw [w2] at hm
        obtain ⟨rfl, he⟩ := hm
        simp only [fi_const, fi_iload, fi_aload, fi_istore, fi_astore, fi_iinc, fi_bin, fi_div, fi_un, fi_dup, fi_dup2, fi_pop, fi_if, fi_cmp, fi_getf, fi_putf, fi_putr, fi_ald, fi_ast, fi_alen, fi_iret, fi_zret, fi_vret, fi_cut, fi_no, fi_s0, fi_s1, fi_s2, fi_s3, fi_s4, fi_v0, fi_v1, fi_v2, fi_v3, fi_v4, fi_v5, fi_n0, fi_n1, fi_n2, fi_mm, fi_stat, fi_alds, fi_tsw, List.getElem?_cons_zero, List.getElem?_cons_succ, List.set_cons_zero, List.set_cons_succ, List.length_cons, List.length_nil, Option.toList_some, Option.toList_none, List.cons_append, List.nil_append, Value.category, true_and, k_0, k_1, k_2, k_3, k_4, false_implies, true_implies, reduceCtorEq]
        refine S_X2_readScene_47 ?_
        simp only [T_X2_readScene_47, fi_const, fi_iload, fi_aload, fi_istore, fi_astore, fi_iinc, fi_bin, fi_div, fi_un, fi_dup, fi_dup2, fi_pop, fi_if, fi_cmp, fi_getf, fi_putf, fi_putr, fi_ald, fi_ast, fi_alen, fi_iret, fi_zret, fi_vret, fi_cut, fi_no, fi_s0, fi_s1, fi_s2, fi_s3, fi_s4, fi_v0, fi_v1, fi_v2, fi_v3, fi_v4, fi_v5, fi_n0, fi_n1, fi_n2, fi_mm, fi_stat, fi_alds, fi_tsw, List.getElem?_cons_zero, List.getElem?_cons_succ, List.set_cons_zero, List.set_cons_succ, List.length_cons, List.length_nil, Option.toList_some, Option.toList_none, List.cons_append, List.nil_append, Value.category, true_and, k_0, k_1, k_2, k_3, k_4, false_implies, true_implies, reduceCtorEq]
        refine ⟨?_, fun z => absurd trivial z⟩
        exact ⟨Or.inl trivial, σ3, rfl, lo13, rfl, he⟩
      | none =>
        rw [w2] at hm
        obtain ⟨rfl, l3⟩ := hm
        obtain ⟨-, hv1, hv2⟩ := eInt_none w2
        have go : ∀ (q5 : Bool) (σ4 : Nat → Nat → Int32), loC σ σ4 → q5 = decide (tW b L (tE b L (tE b L (tE b L k))) = nI 7) → LI σ4 b L Z (nK b L (tE b L (tE b L (tE b L k)))) → fs_R g m_X2_readScene d (0, 0) 76 [.ref 26, .int (nI l), .int (nI (tV b L (tE b L (tE b L k)))), .int (bI q5), .null] [] ((S, fr), σ4, τ) (rdQ S fr τ σ b L (pSem b L (match pCast b L Z.1 Z.2.2.1.2.1 7 (nK b L (tE b L (tE b L (tE b L k)))) 0 with
            | .inl e => .inl e
            | .inr (c, k') => .inr ((adS Z.1 Z.2.2.1.2.2 (nI l) (nI (tV b L (tE b L (tE b L k)))) (bI (decide (tW b L (tE b L (tE b L (tE b L k))) = nI 7))) c, Z.2.1, (Z.2.2.1.1, Z.2.2.1.2.1, Z.2.2.1.2.2 + 1), Z.2.2.2.1, Z.2.2.2.2), k')))) := by
          intro q5 σ4 lo4 hq l4
          subst hq
          refine S_X2_readScene_76 ?_
          simp only [T_X2_readScene_76, fi_const, fi_iload, fi_aload, fi_istore, fi_astore, fi_iinc, fi_bin, fi_div, fi_un, fi_dup, fi_dup2, fi_pop, fi_if, fi_cmp, fi_getf, fi_putf, fi_putr, fi_ald, fi_ast, fi_alen, fi_iret, fi_zret, fi_vret, fi_cut, fi_no, fi_s0, fi_s1, fi_s2, fi_s3, fi_s4, fi_v0, fi_v1, fi_v2, fi_v3, fi_v4, fi_v5, fi_n0, fi_n1, fi_n2, fi_mm, fi_stat, fi_alds, fi_tsw, List.getElem?_cons_zero, List.getElem?_cons_succ, List.set_cons_zero, List.set_cons_succ, List.length_cons, List.length_nil, Option.toList_some, Option.toList_none, List.cons_append, List.nil_append, Value.category, true_and, k_0, k_1, k_2, k_3, k_4, false_implies, true_implies, reduceCtorEq, hS.1]
          refine ⟨by decide, ⟨_, rfl⟩, (c_takeCast hS l4).mono ?_⟩
          rintro r M' ⟨σ5, rfl, lo5, hm⟩
          cases w3 : pCast b L Z.1 Z.2.2.1.2.1 7 (nK b L (tE b L (tE b L (tE b L k)))) 0 with
          | inl e =>
            rw [w3] at hm
            obtain ⟨rfl, he⟩ := hm
            simp only [fi_const, fi_iload, fi_aload, fi_istore, fi_astore, fi_iinc, fi_bin, fi_div, fi_un, fi_dup, fi_dup2, fi_pop, fi_if, fi_cmp, fi_getf, fi_putf, fi_putr, fi_ald, fi_ast, fi_alen, fi_iret, fi_zret, fi_vret, fi_cut, fi_no, fi_s0, fi_s1, fi_s2, fi_s3, fi_s4, fi_v0, fi_v1, fi_v2, fi_v3, fi_v4, fi_v5, fi_n0, fi_n1, fi_n2, fi_mm, fi_stat, fi_alds, fi_tsw, List.getElem?_cons_zero, List.getElem?_cons_succ, List.set_cons_zero, List.set_cons_succ, List.length_cons, List.length_nil, Option.toList_some, Option.toList_none, List.cons_append, List.nil_append, Value.category, true_and, k_0, k_1, k_2, k_3, k_4, false_implies, true_implies, reduceCtorEq]
            refine ⟨?_, fun z => absurd trivial z⟩
            exact ⟨Or.inl trivial, σ5, rfl, lo4.tr lo5, rfl, he⟩
          | inr ck =>
            obtain ⟨c, k'⟩ := ck
            rw [w3] at hm
            obtain ⟨rfl, l5, hbits⟩ := hm
            simp only [fi_const, fi_iload, fi_aload, fi_istore, fi_astore, fi_iinc, fi_bin, fi_div, fi_un, fi_dup, fi_dup2, fi_pop, fi_if, fi_cmp, fi_getf, fi_putf, fi_putr, fi_ald, fi_ast, fi_alen, fi_iret, fi_zret, fi_vret, fi_cut, fi_no, fi_s0, fi_s1, fi_s2, fi_s3, fi_s4, fi_v0, fi_v1, fi_v2, fi_v3, fi_v4, fi_v5, fi_n0, fi_n1, fi_n2, fi_mm, fi_stat, fi_alds, fi_tsw, List.getElem?_cons_zero, List.getElem?_cons_succ, List.set_cons_zero, List.set_cons_succ, List.length_cons, List.length_nil, Option.toList_some, Option.toList_none, List.cons_append, List.nil_append, Value.category, true_and, k_0, k_1, k_2, k_3, k_4, false_implies, true_implies, reduceCtorEq, hS.1]
            refine ⟨fun z => ?_, fun _ => ⟨by decide, ⟨_, hP.1⟩, (c_addScene4 hP q l5.2.2.2.1.1.2.2 _ _ _ _).mono ?_⟩⟩
            · have := hbits 31 (by omega)
              rw [z, bt_m1 (by decide)] at this
              exact absurd this (by decide)
            rintro r M' ⟨rfl, rfl⟩
            simp only [fi_const, fi_iload, fi_aload, fi_istore, fi_astore, fi_iinc, fi_bin, fi_div, fi_un, fi_dup, fi_dup2, fi_pop, fi_if, fi_cmp, fi_getf, fi_putf, fi_putr, fi_ald, fi_ast, fi_alen, fi_iret, fi_zret, fi_vret, fi_cut, fi_no, fi_s0, fi_s1, fi_s2, fi_s3, fi_s4, fi_v0, fi_v1, fi_v2, fi_v3, fi_v4, fi_v5, fi_n0, fi_n1, fi_n2, fi_mm, fi_stat, fi_alds, fi_tsw, List.getElem?_cons_zero, List.getElem?_cons_succ, List.set_cons_zero, List.set_cons_succ, List.length_cons, List.length_nil, Option.toList_some, Option.toList_none, List.cons_append, List.nil_append, Value.category, true_and, k_0, k_1, k_2, k_3, k_4, false_implies, true_implies, reduceCtorEq, hS.1]
            have hZ' := okZ_scn (gs := Z.2.2.2.1) (dg := Z.2.2.2.2) h5 q hl hv1 hv2 (q := decide (tW b L (tE b L (tE b L (tE b L k))) = nI 7)) hbits
            refine ⟨by decide, ⟨_, rfl⟩, (c_takeSemi hS (l5.mem (fun a ha => ?_) (DC_scn l5.2.2.2.1 h5 q) hZ')).mono ?_⟩
            · rw [fs_u_ne (by omega), fs_u_ne (by omega), fs_u_ne (by omega), fs_u_ne (by omega), fs_u_ne (by omega)]
            intro r M' hr
            obtain ⟨x, rfl, hx⟩ := hr.z
            simp only [fi_const, fi_iload, fi_aload, fi_istore, fi_astore, fi_iinc, fi_bin, fi_div, fi_un, fi_dup, fi_dup2, fi_pop, fi_if, fi_cmp, fi_getf, fi_putf, fi_putr, fi_ald, fi_ast, fi_alen, fi_iret, fi_zret, fi_vret, fi_cut, fi_no, fi_s0, fi_s1, fi_s2, fi_s3, fi_s4, fi_v0, fi_v1, fi_v2, fi_v3, fi_v4, fi_v5, fi_n0, fi_n1, fi_n2, fi_mm, fi_stat, fi_alds, fi_tsw, List.getElem?_cons_zero, List.getElem?_cons_succ, List.set_cons_zero, List.set_cons_succ, List.length_cons, List.length_nil, Option.toList_some, Option.toList_none, List.cons_append, List.nil_append, Value.category, true_and, k_0, k_1, k_2, k_3, k_4, false_implies, true_implies, reduceCtorEq]
            refine ⟨hx, rdQ.tr ((lo4.tr lo5).tr ?_) hr⟩
            exact ((((loC.u (by decide) (by decide)).tr (loC.u (by decide) (by decide))).tr (loC.u (by decide) (by decide))).tr (loC.u (by decide) (by decide))).tr (loC.u (by decide) (by decide))
        simp only [fi_const, fi_iload, fi_aload, fi_istore, fi_astore, fi_iinc, fi_bin, fi_div, fi_un, fi_dup, fi_dup2, fi_pop, fi_if, fi_cmp, fi_getf, fi_putf, fi_putr, fi_ald, fi_ast, fi_alen, fi_iret, fi_zret, fi_vret, fi_cut, fi_no, fi_s0, fi_s1, fi_s2, fi_s3, fi_s4, fi_v0, fi_v1, fi_v2, fi_v3, fi_v4, fi_v5, fi_n0, fi_n1, fi_n2, fi_mm, fi_stat, fi_alds, fi_tsw, List.getElem?_cons_zero, List.getElem?_cons_succ, List.set_cons_zero, List.set_cons_succ, List.length_cons, List.length_nil, Option.toList_some, Option.toList_none, List.cons_append, List.nil_append, Value.category, true_and, k_0, k_1, k_2, k_3, k_4, false_implies, true_implies, reduceCtorEq]
        refine S_X2_readScene_47 ?_
        simp only [T_X2_readScene_47, fi_const, fi_iload, fi_aload, fi_istore, fi_astore, fi_iinc, fi_bin, fi_div, fi_un, fi_dup, fi_dup2, fi_pop, fi_if, fi_cmp, fi_getf, fi_putf, fi_putr, fi_ald, fi_ast, fi_alen, fi_iret, fi_zret, fi_vret, fi_cut, fi_no, fi_s0, fi_s1, fi_s2, fi_s3, fi_s4, fi_v0, fi_v1, fi_v2, fi_v3, fi_v4, fi_v5, fi_n0, fi_n1, fi_n2, fi_mm, fi_stat, fi_alds, fi_tsw, List.getElem?_cons_zero, List.getElem?_cons_succ, List.set_cons_zero, List.set_cons_succ, List.length_cons, List.length_nil, Option.toList_some, Option.toList_none, List.cons_append, List.nil_append, Value.category, true_and, k_0, k_1, k_2, k_3, k_4, false_implies, true_implies, reduceCtorEq, hS.1]
        refine ⟨fun z => absurd z (nI_m1 (by omega)), fun _ => ⟨by decide, ⟨_, hS.2.1⟩, (c_isW hS l3.1 l3.2.1 l3.2.2.1 sr_15 (i := 7) (by decide) rfl).mono ?_⟩⟩
        rintro r M' ⟨rfl, rfl⟩
        simp only [fi_const, fi_iload, fi_aload, fi_istore, fi_astore, fi_iinc, fi_bin, fi_div, fi_un, fi_dup, fi_dup2, fi_pop, fi_if, fi_cmp, fi_getf, fi_putf, fi_putr, fi_ald, fi_ast, fi_alen, fi_iret, fi_zret, fi_vret, fi_cut, fi_no, fi_s0, fi_s1, fi_s2, fi_s3, fi_s4, fi_v0, fi_v1, fi_v2, fi_v3, fi_v4, fi_v5, fi_n0, fi_n1, fi_n2, fi_mm, fi_stat, fi_alds, fi_tsw, List.getElem?_cons_zero, List.getElem?_cons_succ, List.set_cons_zero, List.set_cons_succ, List.length_cons, List.length_nil, Option.toList_some, Option.toList_none, List.cons_append, List.nil_append, Value.category, true_and, k_0, k_1, k_2, k_3, k_4, false_implies, true_implies, reduceCtorEq, bI_eq0, decide_eq_false_iff_not, hS.1]
        refine ⟨fun y => go _ σ3 lo13 rfl (by unfold nK; rw [if_neg y]; exact l3), fun y => ⟨by decide, ⟨_, hS.2.1⟩, (c_adv hS l3).mono ?_⟩⟩
        rintro r M' ⟨rfl, σ4, rfl, f4, l4⟩
        simp only [fi_const, fi_iload, fi_aload, fi_istore, fi_astore, fi_iinc, fi_bin, fi_div, fi_un, fi_dup, fi_dup2, fi_pop, fi_if, fi_cmp, fi_getf, fi_putf, fi_putr, fi_ald, fi_ast, fi_alen, fi_iret, fi_zret, fi_vret, fi_cut, fi_no, fi_s0, fi_s1, fi_s2, fi_s3, fi_s4, fi_v0, fi_v1, fi_v2, fi_v3, fi_v4, fi_v5, fi_n0, fi_n1, fi_n2, fi_mm, fi_stat, fi_alds, fi_tsw, List.getElem?_cons_zero, List.getElem?_cons_succ, List.set_cons_zero, List.set_cons_succ, List.length_cons, List.length_nil, Option.toList_some, Option.toList_none, List.cons_append, List.nil_append, Value.category, true_and, k_0, k_1, k_2, k_3, k_4, false_implies, true_implies, reduceCtorEq]
        exact go _ σ4 (lo13.tr (loC.tk f4)) rfl (by unfold nK; rw [if_pos (Decidable.byContradiction y)]; exact l4)
  · rw [if_pos (by omega)]
    refine ⟨by decide, ⟨_, rfl⟩, (c_fail hS h3.2.1 (-17)).mono ?_⟩
    rintro r M' ⟨rfl, σ', rfl, f1, f2⟩
    simp only [fi_const, fi_iload, fi_aload, fi_istore, fi_astore, fi_iinc, fi_bin, fi_div, fi_un, fi_dup, fi_dup2, fi_pop, fi_if, fi_cmp, fi_getf, fi_putf, fi_putr, fi_ald, fi_ast, fi_alen, fi_iret, fi_zret, fi_vret, fi_cut, fi_no, fi_s0, fi_s1, fi_s2, fi_s3, fi_s4, fi_v0, fi_v1, fi_v2, fi_v3, fi_v4, fi_v5, fi_n0, fi_n1, fi_n2, fi_mm, fi_stat, fi_alds, fi_tsw, List.getElem?_cons_zero, List.getElem?_cons_succ, List.set_cons_zero, List.set_cons_succ, List.length_cons, List.length_nil, Option.toList_some, Option.toList_none, List.cons_append, List.nil_append, Value.category, true_and, k_0, k_1, k_2, k_3, k_4, false_implies, true_implies, reduceCtorEq]
    exact ⟨Or.inl trivial, σ', rfl, f1, rfl, f2⟩
end PL3
