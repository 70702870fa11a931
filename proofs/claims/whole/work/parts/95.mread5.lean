/-! ===== the reference's reader: settings ===== -/
section PR7
variable {g : fs_G} {d : Nat} {S : List fs_Sh} {fr : Bool} {σ : Nat → Nat → Int32} {τ : Nat → Nat → Int64} {b : Nat → Nat} {L : Nat} {Z : Zt} {k : Nat} {o : Option Er}
theorem MS.gs {v v' : Int32} (h : MS σ b L Z k o) (hv : o = none → v = v') : MS (fs_u σ 56 20 v) b L (Z.1, Z.2.1, Z.2.2.1, v', Z.2.2.2.2) k o := by
  obtain ⟨h1, h2, h3, h4, h5⟩ := h
  obtain ⟨t1, t2, t3⟩ := h1
  have e : ∀ c, c ≠ 20 → fs_u σ 56 20 v 56 c = σ 56 c := fun c hc => by simp only [fs_u]; rw [if_neg (fun z => hc z.2)]
  refine ⟨⟨by rw [e 10 (by decide)]; exact t1, t2, by rw [fs_u_ne (by decide)]; exact t3⟩, by rw [fs_u_ne (by decide)]; exact h2, h3, fun w => ?_, fun e' w => ?_⟩
  · obtain ⟨a1, a2, a3, a4, a5, a6⟩ := h4 w
    exact ⟨a1, a2.fa (fun c _ _ => e c (by omega)), by rw [fs_u_ne (by decide)]; exact a3, by rw [u_eq]; exact hv w, by rw [e 21 (by decide)]; exact a5, by rw [e 16 (by decide)]; exact a6⟩
  · rw [e 16 (by decide), e 17 (by decide)]; exact h5 e' w
theorem MS.n60 {e : Er} {j : Nat} {v : Int32} (h : MS σ b L Z k (some e)) : MS (fs_u σ 60 j v) b L Z k (some e) := by
  obtain ⟨h1, h2, h3, h4, h5⟩ := h
  obtain ⟨t1, t2, t3⟩ := h1
  exact ⟨⟨by rw [fs_u_ne (by decide)]; exact t1, t2, by rw [fs_u_ne (by decide)]; exact t3⟩, by rw [fs_u_ne (by decide)]; exact h2, h3, (fun z => by cases z), fun e' w => by rw [fs_u_ne (by decide)]; exact h5 e' w⟩
theorem MS.nw {j : Nat} {v : Int32} {N' : Nat → Int32} (h : MS σ b L Z k none) (hN : fs_u σ 60 j v 60 = N') (hZ : okZ (Z.1, N', Z.2.2.1, Z.2.2.2.1, Z.2.2.2.2)) : MS (fs_u σ 60 j v) b L (Z.1, N', Z.2.2.1, Z.2.2.2.1, Z.2.2.2.2) k none := by
  obtain ⟨h1, h2, h3, h4, h5⟩ := h
  obtain ⟨t1, t2, t3⟩ := h1
  obtain ⟨a1, a2, a3, a4, a5, a6⟩ := h4 rfl
  have e : fs_u σ 60 j v 56 = σ 56 := fs_u_ne (by decide)
  exact ⟨⟨by rw [e]; exact t1, t2, by rw [fs_u_ne (by decide)]; exact t3⟩, by rw [fs_u_ne (by decide)]; exact h2, hZ, fun _ => ⟨a1, a2.fa (fun c _ _ => by rw [e]), hN, by rw [e]; exact a4, by rw [e]; exact a5, by rw [e]; exact a6⟩, fun e' z => by cases z⟩
theorem le_lo {i : Nat} (h : i < 4) : leS i = nI (loS i) ∧ moS i = nI (hiS i) ∧ loS i < 2 ^ 31 ∧ hiS i < 2 ^ 31 := by
  have : i = 0 ∨ i = 1 ∨ i = 2 ∨ i = 3 := by omega
  rcases this with rfl | rfl | rfl | rfl <;> decide
theorem l_rset92 (hM : shM S 56) {σ0 : Nat → Nat → Int32} {v : Value} {q : Bool} {j k0 : Nat} (hj : j < 4) (h : MS σ b L Z (tE b L k0) o) (h0 : tfM σ0 σ) (ho : ofE o (wh q (-14) (tS b L (tE b L k0))) = o3S b L k0 Z) (hI : o3S b L k0 Z = none → tI b L (tE b L k0) = some j) : fs_R g m_X9_readSet d (0, 0) 92 [.ref 56, v, .int (nI j)] [.int (bI q), .ref 56] ((S, fr), σ, τ) (rdM S fr τ σ0 b L (pSem b L (sSet b L k0 Z))) := by
  obtain ⟨s1, s2⟩ := sSet_of (Z := Z) (b := b) (L := L) (k := k0)
  obtain ⟨l1, l2, l3, l4⟩ := le_lo hj
  refine S_X9_readSet_92 ?_
  simp only [T_X9_readSet_92, fi_const, fi_iload, fi_aload, fi_istore, fi_astore, fi_iinc, fi_bin, fi_div, fi_un, fi_dup, fi_dup2, fi_pop, fi_if, fi_cmp, fi_getf, fi_putf, fi_putr, fi_ald, fi_ast, fi_alen, fi_iret, fi_zret, fi_vret, fi_cut, fi_no, fi_s0, fi_s1, fi_s2, fi_s3, fi_s4, fi_v0, fi_v1, fi_v2, fi_v3, fi_v4, fi_v5, fi_n0, fi_n1, fi_n2, fi_mm, fi_stat, fi_alds, fi_tsw, List.getElem?_cons_zero, List.getElem?_cons_succ, List.set_cons_zero, List.set_cons_succ, List.length_cons, List.length_nil, Option.toList_some, Option.toList_none, List.cons_append, List.nil_append, Value.category, true_and, k_0, k_1, k_2, k_3, k_4, false_implies, true_implies, reduceCtorEq, hM.1]
  refine ⟨by decide, ⟨_, rfl⟩, (c_failsIf hM (c := q) (fun p => by unfold erC; simp) rfl h).mono ?_⟩
  rintro r M' ⟨rfl, σ1, rfl, f1, f2⟩
  rw [ho] at f2
  simp only [fi_const, fi_iload, fi_aload, fi_istore, fi_astore, fi_iinc, fi_bin, fi_div, fi_un, fi_dup, fi_dup2, fi_pop, fi_if, fi_cmp, fi_getf, fi_putf, fi_putr, fi_ald, fi_ast, fi_alen, fi_iret, fi_zret, fi_vret, fi_cut, fi_no, fi_s0, fi_s1, fi_s2, fi_s3, fi_s4, fi_v0, fi_v1, fi_v2, fi_v3, fi_v4, fi_v5, fi_n0, fi_n1, fi_n2, fi_mm, fi_stat, fi_alds, fi_tsw, List.getElem?_cons_zero, List.getElem?_cons_succ, List.set_cons_zero, List.set_cons_succ, List.length_cons, List.length_nil, Option.toList_some, Option.toList_none, List.cons_append, List.nil_append, Value.category, true_and, k_0, k_1, k_2, k_3, k_4, false_implies, true_implies, reduceCtorEq, hM.1]
  have f2' := f2.gs (v := σ1 56 20 ||| 1 <<< (nI j &&& 31)) (v' := Z.2.2.2.1 ||| 1 <<< (nI j &&& 31)) (fun w => by rw [(f2.2.2.2.1 w).2.2.2.1])
  refine ⟨by decide, ⟨_, rfl⟩, (c_goOn hM f2').mono ?_⟩
  rintro r M' ⟨rfl, σ2, rfl, f3, f4⟩
  simp only [fi_const, fi_iload, fi_aload, fi_istore, fi_astore, fi_iinc, fi_bin, fi_div, fi_un, fi_dup, fi_dup2, fi_pop, fi_if, fi_cmp, fi_getf, fi_putf, fi_putr, fi_ald, fi_ast, fi_alen, fi_iret, fi_zret, fi_vret, fi_cut, fi_no, fi_s0, fi_s1, fi_s2, fi_s3, fi_s4, fi_v0, fi_v1, fi_v2, fi_v3, fi_v4, fi_v5, fi_n0, fi_n1, fi_n2, fi_mm, fi_stat, fi_alds, fi_tsw, List.getElem?_cons_zero, List.getElem?_cons_succ, List.set_cons_zero, List.set_cons_succ, List.length_cons, List.length_nil, Option.toList_some, Option.toList_none, List.cons_append, List.nil_append, Value.category, true_and, k_0, k_1, k_2, k_3, k_4, false_implies, true_implies, reduceCtorEq, hM.1]
  refine ⟨by decide, (c_leastOf hj).mono ?_⟩
  rintro r M' ⟨rfl, rfl⟩
  simp only [fi_const, fi_iload, fi_aload, fi_istore, fi_astore, fi_iinc, fi_bin, fi_div, fi_un, fi_dup, fi_dup2, fi_pop, fi_if, fi_cmp, fi_getf, fi_putf, fi_putr, fi_ald, fi_ast, fi_alen, fi_iret, fi_zret, fi_vret, fi_cut, fi_no, fi_s0, fi_s1, fi_s2, fi_s3, fi_s4, fi_v0, fi_v1, fi_v2, fi_v3, fi_v4, fi_v5, fi_n0, fi_n1, fi_n2, fi_mm, fi_stat, fi_alds, fi_tsw, List.getElem?_cons_zero, List.getElem?_cons_succ, List.set_cons_zero, List.set_cons_succ, List.length_cons, List.length_nil, Option.toList_some, Option.toList_none, List.cons_append, List.nil_append, Value.category, true_and, k_0, k_1, k_2, k_3, k_4, false_implies, true_implies, reduceCtorEq]
  refine ⟨by decide, (c_mostOf hj).mono ?_⟩
  rintro r M' ⟨rfl, rfl⟩
  rw [l1, l2]
  simp only [fi_const, fi_iload, fi_aload, fi_istore, fi_astore, fi_iinc, fi_bin, fi_div, fi_un, fi_dup, fi_dup2, fi_pop, fi_if, fi_cmp, fi_getf, fi_putf, fi_putr, fi_ald, fi_ast, fi_alen, fi_iret, fi_zret, fi_vret, fi_cut, fi_no, fi_s0, fi_s1, fi_s2, fi_s3, fi_s4, fi_v0, fi_v1, fi_v2, fi_v3, fi_v4, fi_v5, fi_n0, fi_n1, fi_n2, fi_mm, fi_stat, fi_alds, fi_tsw, List.getElem?_cons_zero, List.getElem?_cons_succ, List.set_cons_zero, List.set_cons_succ, List.length_cons, List.length_nil, Option.toList_some, Option.toList_none, List.cons_append, List.nil_append, Value.category, true_and, k_0, k_1, k_2, k_3, k_4, false_implies, true_implies, reduceCtorEq]
  refine ⟨by decide, ⟨_, hM.1⟩, (c_integer hM l3 l4 f4).mono ?_⟩
  rintro r M' ⟨⟨y, rfl, hy⟩, σ3, rfl, f5, f6⟩
  have i1 : vp_in (nI j) 18 := vp_in_nI (by omega) (by decide)
  have a0 : (0 : Int32) + nI j = nI j := by rw [Int32.zero_add]
  simp only [fi_const, fi_iload, fi_aload, fi_istore, fi_astore, fi_iinc, fi_bin, fi_div, fi_un, fi_dup, fi_dup2, fi_pop, fi_if, fi_cmp, fi_getf, fi_putf, fi_putr, fi_ald, fi_ast, fi_alen, fi_iret, fi_zret, fi_vret, fi_cut, fi_no, fi_s0, fi_s1, fi_s2, fi_s3, fi_s4, fi_v0, fi_v1, fi_v2, fi_v3, fi_v4, fi_v5, fi_n0, fi_n1, fi_n2, fi_mm, fi_stat, fi_alds, fi_tsw, List.getElem?_cons_zero, List.getElem?_cons_succ, List.set_cons_zero, List.set_cons_succ, List.length_cons, List.length_nil, Option.toList_some, Option.toList_none, List.cons_append, List.nil_append, Value.category, true_and, k_0, k_1, k_2, k_3, k_4, false_implies, true_implies, reduceCtorEq, hM.2.2.2.2.1, show 56 + 4 = 60 from rfl, a0, i1, nI_clamp (show j < 2 ^ 31 by omega), nar_i]
  have hlo : loM σ0 (fs_u σ3 60 j y) := by
    intro a c hac
    rw [← h0.lo a c hac, ← (tfM.fa f1).lo a c hac]
    have e1 : fs_u σ1 56 20 (σ1 56 20 ||| 1 <<< (nI j &&& 31)) a c = σ1 a c := by simp only [fs_u]; rw [if_neg (by omega)]
    rw [← e1, ← (tfM.tk f3).lo a c hac, ← f5.lo a c hac]
    simp only [fs_u]; rw [if_neg (by omega)]
  cases w : ofE (o3S b L k0 Z) (eInt b L (loS j) (hiS j) (tE b L (tE b L k0))) with
  | some e =>
    rw [w] at f6
    have es : sSet b L k0 Z = .inl e := by
      cases w1 : o3S b L k0 Z with
      | some e' => rw [w1] at w; rw [← Option.some.inj w]; exact s1 _ w1
      | none =>
        obtain ⟨i, t1, t2, t3⟩ := s2 w1
        have := hI w1
        rw [t1] at this
        have := Option.some.inj this
        subst this
        rw [w1] at w
        exact t2 e w
    rw [es]
    exact ⟨rfl, _, _, _, some e, rfl, hlo, f6.n60, rfl⟩
  | none =>
    rw [w] at f6
    obtain ⟨w1, w2⟩ := ofE_n.mp w
    obtain ⟨i, t1, t2, t3⟩ := s2 w1
    have := hI w1
    rw [t1] at this
    have := Option.some.inj this
    subst this
    obtain ⟨-, u1, u2⟩ := eInt_n w2
    rw [t3 w2]
    have ey := hy w
    subst ey
    have hN : fs_u σ3 60 i (nI (tV b L (tE b L (tE b L k0)))) 60 = adN Z.2.1 i (nI (tV b L (tE b L (tE b L k0)))) := by
      funext c
      have e60 : σ3 60 = Z.2.1 := (f6.2.2.2.1 rfl).2.2.1
      simp only [fs_u, adN]
      rw [e60]
      by_cases wc : c = i
      · rw [if_pos ⟨trivial, wc⟩, if_pos wc]
      · rw [if_neg (fun z => wc z.2), if_neg wc]
    exact ⟨rfl, _, _, _, none, rfl, hlo, f6.nw hN (okZ_set f6.2.2.1 hj u1 u2), rfl⟩
theorem l_rset73 (hM : shM S 56) {σ0 : Nat → Nat → Int32} {v v2 : Value} {j k0 : Nat} (hj : j < 4) (h : MS σ b L Z (tE b L k0) o) (h0 : tfM σ0 σ) (ho : o = ofE (wh Z.2.2.2.2 (-15) (tS b L k0)) (wh (!(tI b L (tE b L k0)).isSome) (-11) (tS b L (tE b L k0)))) (hI : o = none → tI b L (tE b L k0) = some j) : fs_R g m_X9_readSet d (0, 0) 73 [.ref 56, v, v2] [.int (nI j)] ((S, fr), σ, τ) (rdM S fr τ σ0 b L (pSem b L (sSet b L k0 Z))) := by
  have key : ∀ q : Bool, (o = none → q = bt Z.2.2.2.1 j) → ofE o (wh q (-14) (tS b L (tE b L k0))) = o3S b L k0 Z := by
    intro q hq
    unfold o3S
    rw [← ho]
    cases w : o with
    | some e => rfl
    | none => rw [hI w, hq w]; rfl
  have hn : o3S b L k0 Z = none → tI b L (tE b L k0) = some j := fun w => by
    unfold o3S at w
    rw [← ho] at w
    exact hI (ofE_n.mp w).1
  refine S_X9_readSet_73 ?_
  simp only [T_X9_readSet_73, fi_const, fi_iload, fi_aload, fi_istore, fi_astore, fi_iinc, fi_bin, fi_div, fi_un, fi_dup, fi_dup2, fi_pop, fi_if, fi_cmp, fi_getf, fi_putf, fi_putr, fi_ald, fi_ast, fi_alen, fi_iret, fi_zret, fi_vret, fi_cut, fi_no, fi_s0, fi_s1, fi_s2, fi_s3, fi_s4, fi_v0, fi_v1, fi_v2, fi_v3, fi_v4, fi_v5, fi_n0, fi_n1, fi_n2, fi_mm, fi_stat, fi_alds, fi_tsw, List.getElem?_cons_zero, List.getElem?_cons_succ, List.set_cons_zero, List.set_cons_succ, List.length_cons, List.length_nil, Option.toList_some, Option.toList_none, List.cons_append, List.nil_append, Value.category, true_and, k_0, k_1, k_2, k_3, k_4, false_implies, true_implies, reduceCtorEq, hM.1]
  refine ⟨fun z => ?_, fun z => ?_⟩
  · refine l_rset92 (q := true) hM hj h h0 (key true (fun w => ?_)) hn
    rw [(h.2.2.2.1 w).2.2.2.1, bt_has1 (by omega)] at z
    exact z.symm
  · refine l_rset92 (q := false) hM hj h h0 (key false (fun w => ?_)) hn
    rw [(h.2.2.2.1 w).2.2.2.1, bt_has1 (by omega)] at z
    cases u : bt Z.2.2.2.1 j; rfl; exact absurd u z
theorem l_rset53 (hM : shM S 56) {σ0 : Nat → Nat → Int32} {v2 : Value} {i : Bool} {k0 : Nat} (h : MS σ b L Z (tE b L k0) o) (h0 : tfM σ0 σ) (ho : o = wh Z.2.2.2.2 (-15) (tS b L k0)) (hi : o = none → i = (tI b L (tE b L k0)).isSome) (hi2 : i = true → o = none) : fs_R g m_X9_readSet d (0, 0) 53 [.ref 56, .int (bI i), v2] [.int (bI (!i)), .ref 56] ((S, fr), σ, τ) (rdM S fr τ σ0 b L (pSem b L (sSet b L k0 Z))) := by
  have key : ofE o (wh (!i) (-11) (tS b L (tE b L k0))) = ofE (wh Z.2.2.2.2 (-15) (tS b L k0)) (wh (!(tI b L (tE b L k0)).isSome) (-11) (tS b L (tE b L k0))) := by
    rw [← ho]
    cases w : o with
    | some e => rfl
    | none => rw [hi w]
  refine S_X9_readSet_53 ?_
  simp only [T_X9_readSet_53, fi_const, fi_iload, fi_aload, fi_istore, fi_astore, fi_iinc, fi_bin, fi_div, fi_un, fi_dup, fi_dup2, fi_pop, fi_if, fi_cmp, fi_getf, fi_putf, fi_putr, fi_ald, fi_ast, fi_alen, fi_iret, fi_zret, fi_vret, fi_cut, fi_no, fi_s0, fi_s1, fi_s2, fi_s3, fi_s4, fi_v0, fi_v1, fi_v2, fi_v3, fi_v4, fi_v5, fi_n0, fi_n1, fi_n2, fi_mm, fi_stat, fi_alds, fi_tsw, List.getElem?_cons_zero, List.getElem?_cons_succ, List.set_cons_zero, List.set_cons_succ, List.length_cons, List.length_nil, Option.toList_some, Option.toList_none, List.cons_append, List.nil_append, Value.category, true_and, k_0, k_1, k_2, k_3, k_4, false_implies, true_implies, reduceCtorEq, hM.1]
  refine ⟨by decide, ⟨_, rfl⟩, (c_failsIf hM (c := !i) (fun p => by unfold erC; simp) rfl h).mono ?_⟩
  rintro r M' ⟨rfl, σ1, rfl, f1, f2⟩
  simp only [fi_const, fi_iload, fi_aload, fi_istore, fi_astore, fi_iinc, fi_bin, fi_div, fi_un, fi_dup, fi_dup2, fi_pop, fi_if, fi_cmp, fi_getf, fi_putf, fi_putr, fi_ald, fi_ast, fi_alen, fi_iret, fi_zret, fi_vret, fi_cut, fi_no, fi_s0, fi_s1, fi_s2, fi_s3, fi_s4, fi_v0, fi_v1, fi_v2, fi_v3, fi_v4, fi_v5, fi_n0, fi_n1, fi_n2, fi_mm, fi_stat, fi_alds, fi_tsw, List.getElem?_cons_zero, List.getElem?_cons_succ, List.set_cons_zero, List.set_cons_succ, List.length_cons, List.length_nil, Option.toList_some, Option.toList_none, List.cons_append, List.nil_append, Value.category, true_and, k_0, k_1, k_2, k_3, k_4, false_implies, true_implies, reduceCtorEq, hM.1, bI_eq0]
  refine ⟨fun z => ?_, fun z => ?_⟩
  · refine l_rset73 (j := 0) hM (by decide) f2 (h0.tr (tfM.fa f1)) key (fun w => ?_)
    rw [z] at w
    have := (ofE_n.mp w).2
    cases this
  · have z' : i = true := by cases i; exact absurd rfl z; rfl
    have w1 := hi2 z'
    have w2 := hi w1
    rw [z'] at w2
    obtain ⟨j, ej⟩ := Option.isSome_iff_exists.mp w2.symm
    obtain ⟨hj, ew⟩ := tI_lt ej
    have hk1 : tK b L (tE b L k0) = 1 := by
      unfold tW at ew
      by_cases u : tK b L (tE b L k0) = 1
      · exact u
      · rw [if_neg u] at ew; exact absurd ew.symm (m1n (by omega))
    have o2n : ofE o (wh (!i) (-11) (tS b L (tE b L k0))) = none := by rw [w1, z']; rfl
    have e14 : σ1 56 14 - 8 = nI j := by
      rw [(f2.2.2.2.1 o2n).2.1.2.2.2.2 hk1, ew, show (8 : Int32) = nI 8 from rfl, pk_sub (by omega)]
      congr 1; omega
    rw [e14]
    exact l_rset73 (j := j) hM hj f2 (h0.tr (tfM.fa f1)) key (fun _ => ej)
theorem c_readSetM (hM : shM S 56) (h : MS σ b L Z k none) : fs_Ct g m_X9_readSet [.ref 56] ((S, fr), σ, τ) (rdM S fr τ σ b L (pSem b L (sSet b L k Z))) := by
  have hk4 := tK_le b L (tE b L k)
  refine fs_enterC (by decide) (by simp [fs_ok]) (Nat.le_of_ble_eq_true rfl) (fun d => S_X9_readSet_0 ?_)
  show T_X9_readSet_0 g d _ [.ref 56, .null, .null] [] _
  simp only [T_X9_readSet_0, fi_const, fi_iload, fi_aload, fi_istore, fi_astore, fi_iinc, fi_bin, fi_div, fi_un, fi_dup, fi_dup2, fi_pop, fi_if, fi_cmp, fi_getf, fi_putf, fi_putr, fi_ald, fi_ast, fi_alen, fi_iret, fi_zret, fi_vret, fi_cut, fi_no, fi_s0, fi_s1, fi_s2, fi_s3, fi_s4, fi_v0, fi_v1, fi_v2, fi_v3, fi_v4, fi_v5, fi_n0, fi_n1, fi_n2, fi_mm, fi_stat, fi_alds, fi_tsw, List.getElem?_cons_zero, List.getElem?_cons_succ, List.set_cons_zero, List.set_cons_succ, List.length_cons, List.length_nil, Option.toList_some, Option.toList_none, List.cons_append, List.nil_append, Value.category, true_and, k_0, k_1, k_2, k_3, k_4, false_implies, true_implies, reduceCtorEq]
  simp only [fi_const, fi_iload, fi_aload, fi_istore, fi_astore, fi_iinc, fi_bin, fi_div, fi_un, fi_dup, fi_dup2, fi_pop, fi_if, fi_cmp, fi_getf, fi_putf, fi_putr, fi_ald, fi_ast, fi_alen, fi_iret, fi_zret, fi_vret, fi_cut, fi_no, fi_s0, fi_s1, fi_s2, fi_s3, fi_s4, fi_v0, fi_v1, fi_v2, fi_v3, fi_v4, fi_v5, fi_n0, fi_n1, fi_n2, fi_mm, fi_stat, fi_alds, fi_tsw, List.getElem?_cons_zero, List.getElem?_cons_succ, List.set_cons_zero, List.set_cons_succ, List.length_cons, List.length_nil, Option.toList_some, Option.toList_none, List.cons_append, List.nil_append, Value.category, true_and, k_0, k_1, k_2, k_3, k_4, false_implies, true_implies, reduceCtorEq, hM.1]
  refine ⟨by decide, ⟨_, rfl⟩, (c_failsIf hM (c := Z.2.2.2.2) (fun p => by unfold erC; simp) (h.2.2.2.1 rfl).2.2.2.2.1 h).mono ?_⟩
  rintro r M' ⟨rfl, σ1, rfl, f1, f2⟩
  replace f2 : MS σ1 b L Z k (wh Z.2.2.2.2 (-15) (tS b L k)) := f2
  simp only [fi_const, fi_iload, fi_aload, fi_istore, fi_astore, fi_iinc, fi_bin, fi_div, fi_un, fi_dup, fi_dup2, fi_pop, fi_if, fi_cmp, fi_getf, fi_putf, fi_putr, fi_ald, fi_ast, fi_alen, fi_iret, fi_zret, fi_vret, fi_cut, fi_no, fi_s0, fi_s1, fi_s2, fi_s3, fi_s4, fi_v0, fi_v1, fi_v2, fi_v3, fi_v4, fi_v5, fi_n0, fi_n1, fi_n2, fi_mm, fi_stat, fi_alds, fi_tsw, List.getElem?_cons_zero, List.getElem?_cons_succ, List.set_cons_zero, List.set_cons_succ, List.length_cons, List.length_nil, Option.toList_some, Option.toList_none, List.cons_append, List.nil_append, Value.category, true_and, k_0, k_1, k_2, k_3, k_4, false_implies, true_implies, reduceCtorEq, hM.1]
  refine ⟨by decide, ⟨_, rfl⟩, (c_goOn hM f2).mono ?_⟩
  rintro r M' ⟨rfl, σ2, rfl, f3, f4⟩
  have he := f4.e0
  have hlo := (tfM.fa f1).tr (tfM.tk f3)
  have no : (wh Z.2.2.2.2 (-15) (tS b L k) = none → tI b L (tE b L k) = none) → fs_R g m_X9_readSet d (0, 0) 53 [.ref 56, .int 0, .null] [.int 1, .ref 56] ((S, fr), σ2, τ) (rdM S fr τ σ b L (pSem b L (sSet b L k Z))) := fun w => l_rset53 (i := false) hM f4 hlo rfl (fun u => by rw [w u]; rfl) (fun u => by cases u)
  simp only [fi_const, fi_iload, fi_aload, fi_istore, fi_astore, fi_iinc, fi_bin, fi_div, fi_un, fi_dup, fi_dup2, fi_pop, fi_if, fi_cmp, fi_getf, fi_putf, fi_putr, fi_ald, fi_ast, fi_alen, fi_iret, fi_zret, fi_vret, fi_cut, fi_no, fi_s0, fi_s1, fi_s2, fi_s3, fi_s4, fi_v0, fi_v1, fi_v2, fi_v3, fi_v4, fi_v5, fi_n0, fi_n1, fi_n2, fi_mm, fi_stat, fi_alds, fi_tsw, List.getElem?_cons_zero, List.getElem?_cons_succ, List.set_cons_zero, List.set_cons_succ, List.length_cons, List.length_nil, Option.toList_some, Option.toList_none, List.cons_append, List.nil_append, Value.category, true_and, k_0, k_1, k_2, k_3, k_4, false_implies, true_implies, reduceCtorEq, hM.1]
  refine ⟨fun z => ?_, fun z => ⟨no (fun w => absurd (he.mpr w) z), fun w => absurd trivial w⟩⟩
  have w := he.mp z
  have hT := (f4.2.2.2.1 w).2.1
  rw [hT.1, kM_1 hk4]
  refine ⟨fun z2 => ?_, fun z2 => ⟨no (fun _ => ?_), fun w => absurd trivial w⟩⟩
  · rw [hT.2.2.2.2 z2]
    refine ⟨fun z3 => ⟨no (fun _ => ?_), fun w => absurd trivial w⟩, fun z3 => ⟨fun u => absurd u (by decide), fun _ => ?_⟩⟩
    · refine tI_of.2 (fun i hi u => ?_)
      rw [u] at z3
      exact absurd ((nI_ltI (b := 8) (by omega) (by decide)).mp z3) (by omega)
    · refine l_rset53 (i := true) hM f4 hlo rfl (fun _ => ?_) (fun _ => w)
      rcases tW_or b L (tE b L k) with u | ⟨i, hi, u⟩
      · rw [u] at z3; exact absurd (by decide) z3
      · have h8 : 8 ≤ i := by
          rw [u] at z3
          have : ¬ i < 8 := fun v => z3 ((nI_ltI (b := 8) (by omega) (by decide)).mpr v)
          omega
        rw [tI_of.1 (i - 8) (by omega) (by rw [u]; congr 1; omega)]; rfl
  · refine tI_of.2 (fun i hi u => ?_)
    unfold tW at u
    rw [if_neg z2] at u
    exact absurd u.symm (m1n (by omega))
end PR7
