/-! ===== the reference's reader: scenes, settings ===== -/
section PR6
variable {g : fs_G} {d : Nat} {S : List fs_Sh} {fr : Bool} {σ : Nat → Nat → Int32} {τ : Nat → Nat → Int64} {b : Nat → Nat} {L : Nat} {Z : Zt} {k : Nat} {o : Option Er}
theorem l_rs72 (hM : shM S 56) {σ0 : Nat → Nat → Int32} {x : Int32} {q : Bool} {k0 : Nat} (h : MS σ b L Z (tE b L k0) o) (h0 : tfM σ0 σ) (ho : ofE o (wh q (-13) (tS b L (tE b L k0))) = ofE (wh (decide (Z.2.2.1.2.2 = 14)) (-17) (tS b L k0)) (eLoc b L (tE b L k0) Z.1 Z.2.2.1.1)) (hx : o = none → x = fndB Z.1 (tN b L (tE b L k0)) Z.2.2.1.1 0) : fs_R g m_X9_readScene d (0, 0) 72 [.ref 56, .int (nI Z.2.2.1.2.2), .int x, .null, .null, .null] [.int (bI q), .ref 56] ((S, fr), σ, τ) (rdM S fr τ σ0 b L (pSem b L (sScn b L k0 Z))) := by
  obtain ⟨s1, s2⟩ := sScn_of (Z := Z) (b := b) (L := L) (k := k0)
  refine S_X9_readScene_72 ?_
  simp only [T_X9_readScene_72, fi_const, fi_iload, fi_aload, fi_istore, fi_astore, fi_iinc, fi_bin, fi_div, fi_un, fi_dup, fi_dup2, fi_pop, fi_if, fi_cmp, fi_getf, fi_putf, fi_putr, fi_ald, fi_ast, fi_alen, fi_iret, fi_zret, fi_vret, fi_cut, fi_no, fi_s0, fi_s1, fi_s2, fi_s3, fi_s4, fi_v0, fi_v1, fi_v2, fi_v3, fi_v4, fi_v5, fi_n0, fi_n1, fi_n2, fi_mm, fi_stat, fi_alds, fi_tsw, List.getElem?_cons_zero, List.getElem?_cons_succ, List.set_cons_zero, List.set_cons_succ, List.length_cons, List.length_nil, Option.toList_some, Option.toList_none, List.cons_append, List.nil_append, Value.category, true_and, k_0, k_1, k_2, k_3, k_4, false_implies, true_implies, reduceCtorEq, hM.1]
  refine ⟨by decide, ⟨_, rfl⟩, (c_failsIf hM (c := q) (fun p => by unfold erC; simp) rfl h).mono ?_⟩
  rintro r M' ⟨rfl, σ1, rfl, f1, f2⟩
  rw [ho] at f2
  simp only [fi_const, fi_iload, fi_aload, fi_istore, fi_astore, fi_iinc, fi_bin, fi_div, fi_un, fi_dup, fi_dup2, fi_pop, fi_if, fi_cmp, fi_getf, fi_putf, fi_putr, fi_ald, fi_ast, fi_alen, fi_iret, fi_zret, fi_vret, fi_cut, fi_no, fi_s0, fi_s1, fi_s2, fi_s3, fi_s4, fi_v0, fi_v1, fi_v2, fi_v3, fi_v4, fi_v5, fi_n0, fi_n1, fi_n2, fi_mm, fi_stat, fi_alds, fi_tsw, List.getElem?_cons_zero, List.getElem?_cons_succ, List.set_cons_zero, List.set_cons_succ, List.length_cons, List.length_nil, Option.toList_some, Option.toList_none, List.cons_append, List.nil_append, Value.category, true_and, k_0, k_1, k_2, k_3, k_4, false_implies, true_implies, reduceCtorEq, hM.1]
  refine ⟨by decide, ⟨_, rfl⟩, (c_goOn hM f2).mono ?_⟩
  rintro r M' ⟨rfl, σ2, rfl, f3, f4⟩
  simp only [fi_const, fi_iload, fi_aload, fi_istore, fi_astore, fi_iinc, fi_bin, fi_div, fi_un, fi_dup, fi_dup2, fi_pop, fi_if, fi_cmp, fi_getf, fi_putf, fi_putr, fi_ald, fi_ast, fi_alen, fi_iret, fi_zret, fi_vret, fi_cut, fi_no, fi_s0, fi_s1, fi_s2, fi_s3, fi_s4, fi_v0, fi_v1, fi_v2, fi_v3, fi_v4, fi_v5, fi_n0, fi_n1, fi_n2, fi_mm, fi_stat, fi_alds, fi_tsw, List.getElem?_cons_zero, List.getElem?_cons_succ, List.set_cons_zero, List.set_cons_succ, List.length_cons, List.length_nil, Option.toList_some, Option.toList_none, List.cons_append, List.nil_append, Value.category, true_and, k_0, k_1, k_2, k_3, k_4, false_implies, true_implies, reduceCtorEq, hM.1]
  refine ⟨by decide, ⟨_, rfl⟩, (c_integer (lo := 1) (hi := 60) hM (by decide) (by decide) f4).mono ?_⟩
  rintro r M' ⟨⟨y2, rfl, hy2⟩, σ3, rfl, f5, f6⟩
  replace f6 : MS σ3 b L Z (tE b L (tE b L (tE b L k0))) (o4S b L k0 Z) := f6
  replace hy2 : o4S b L k0 Z = none → y2 = nI (tV b L (tE b L (tE b L k0))) := hy2
  have hlo := ((h0.tr (tfM.fa f1)).tr (tfM.tk f3)).tr f5
  simp only [fi_const, fi_iload, fi_aload, fi_istore, fi_astore, fi_iinc, fi_bin, fi_div, fi_un, fi_dup, fi_dup2, fi_pop, fi_if, fi_cmp, fi_getf, fi_putf, fi_putr, fi_ald, fi_ast, fi_alen, fi_iret, fi_zret, fi_vret, fi_cut, fi_no, fi_s0, fi_s1, fi_s2, fi_s3, fi_s4, fi_v0, fi_v1, fi_v2, fi_v3, fi_v4, fi_v5, fi_n0, fi_n1, fi_n2, fi_mm, fi_stat, fi_alds, fi_tsw, List.getElem?_cons_zero, List.getElem?_cons_succ, List.set_cons_zero, List.set_cons_succ, List.length_cons, List.length_nil, Option.toList_some, Option.toList_none, List.cons_append, List.nil_append, Value.category, true_and, k_0, k_1, k_2, k_3, k_4, false_implies, true_implies, reduceCtorEq, hM.1]
  refine ⟨by decide, ⟨_, rfl⟩, (c_isWordM (w := 7) hM f6 (by decide)).mono ?_⟩
  rintro r M' ⟨rfl, rfl⟩
  simp only [fi_const, fi_iload, fi_aload, fi_istore, fi_astore, fi_iinc, fi_bin, fi_div, fi_un, fi_dup, fi_dup2, fi_pop, fi_if, fi_cmp, fi_getf, fi_putf, fi_putr, fi_ald, fi_ast, fi_alen, fi_iret, fi_zret, fi_vret, fi_cut, fi_no, fi_s0, fi_s1, fi_s2, fi_s3, fi_s4, fi_v0, fi_v1, fi_v2, fi_v3, fi_v4, fi_v5, fi_n0, fi_n1, fi_n2, fi_mm, fi_stat, fi_alds, fi_tsw, List.getElem?_cons_zero, List.getElem?_cons_succ, List.set_cons_zero, List.set_cons_succ, List.length_cons, List.length_nil, Option.toList_some, Option.toList_none, List.cons_append, List.nil_append, Value.category, true_and, k_0, k_1, k_2, k_3, k_4, false_implies, true_implies, reduceCtorEq, hM.1, bI_eq0]
  cases w : o4S b L k0 Z with
  | some e =>
    rw [w] at f6
    refine ⟨fun _ => l_rs106E hM f6 hlo (s1 e w), fun z => absurd rfl z⟩
  | none =>
    obtain ⟨t1, t2, t3, t4⟩ := s2 w
    have w1 : o = none := by
      unfold o4S at w
      have := (ofE_n.mp w).1
      rw [← ho] at this
      exact (ofE_n.mp this).1
    obtain ⟨l, hl, el⟩ := eLoc_n t3
    have ex := hx w1
    rw [el] at ex
    have ey := hy2 w
    subst ex
    subst ey
    obtain ⟨-, u1, u2⟩ := eInt_n t2
    rw [w] at f6
    rw [el] at t4
    have n4 := f6.cn.2.2.2.2.2
    rw [show decide ((none : Option Er) = none) = true from rfl, Bool.true_and]
    refine ⟨fun z => ?_, fun z => ?_⟩
    · rw [decide_eq_false_iff_not] at z
      refine l_rs106 (i := decide (tW b L (tE b L (tE b L (tE b L k0))) = nI 7)) hM f6 hlo (by omega) hl u1 u2 ?_
      rw [t4]
      unfold nK
      rw [if_neg z]
    · rw [decide_eq_false_iff_not, Decidable.not_not] at z
      obtain ⟨h1, h2, h3, h4, h5⟩ := id f6
      obtain ⟨a1, a2, a3, a4, a5, a6⟩ := h4 rfl
      have hk := (tE_k (b := b) a1).2
      refine ⟨by decide, ⟨_, rfl⟩, (c_next hM hk h1 a2.2.2.1).mono ?_⟩
      rintro r M' ⟨rfl, σ', rfl, g1, g2⟩
      have f7 := f6.ok (tfM.tk g1) (g1 56 16 (by omega)) hk g2
      refine l_rs106 (i := decide (tW b L (tE b L (tE b L (tE b L k0))) = nI 7)) hM f7 (hlo.tr (tfM.tk g1)) (by omega) hl u1 u2 ?_
      rw [t4]
      unfold nK
      rw [if_pos z]
theorem eLoc_of {o1 : Option Er} {q : Bool} {T : Nat → Int32} {nL : Nat} (hq : ofE o1 (wh (!isNm b L k) (-11) (tS b L k)) = none → q = decide (fndB T (tN b L k) nL 0 = -1)) : ofE (ofE o1 (wh (!isNm b L k) (-11) (tS b L k))) (wh q (-13) (tS b L k)) = ofE o1 (eLoc b L k T nL) := by
  cases o1 with
  | some e => rfl
  | none =>
    unfold eLoc
    cases w : isNm b L k with
    | false => rfl
    | true =>
      rw [w] at hq
      have := hq rfl
      subst this
      rw [if_pos rfl]
      by_cases u : fndB T (tN b L k) nL 0 = -1
      · rw [if_pos u, decide_eq_true u]; rfl
      · rw [if_neg u, decide_eq_false u]; rfl
theorem c_readSceneM (hM : shM S 56) (h : MS σ b L Z k none) : fs_Ct g m_X9_readScene [.ref 56] ((S, fr), σ, τ) (rdM S fr τ σ b L (pSem b L (sScn b L k Z))) := by
  obtain ⟨c0, c1, c2, c3, c4, c5⟩ := h.cn
  have i82 : vp_in 82 83 := pk_in 82 83 (by decide) (by decide) (by decide)
  have i80 : vp_in 80 83 := pk_in 80 83 (by decide) (by decide) (by decide)
  have l20 : ∀ d, fs_R g m_X9_readScene d (0, 0) 20 [.ref 56, .int (nI Z.2.2.1.2.2), .null, .null, .null, .null] [.int (bI (decide (Z.2.2.1.2.2 = 14))), .ref 56] ((S, fr), σ, τ) (rdM S fr τ σ b L (pSem b L (sScn b L k Z))) := by
    intro d
    refine S_X9_readScene_20 ?_
    simp only [T_X9_readScene_20, fi_const, fi_iload, fi_aload, fi_istore, fi_astore, fi_iinc, fi_bin, fi_div, fi_un, fi_dup, fi_dup2, fi_pop, fi_if, fi_cmp, fi_getf, fi_putf, fi_putr, fi_ald, fi_ast, fi_alen, fi_iret, fi_zret, fi_vret, fi_cut, fi_no, fi_s0, fi_s1, fi_s2, fi_s3, fi_s4, fi_v0, fi_v1, fi_v2, fi_v3, fi_v4, fi_v5, fi_n0, fi_n1, fi_n2, fi_mm, fi_stat, fi_alds, fi_tsw, List.getElem?_cons_zero, List.getElem?_cons_succ, List.set_cons_zero, List.set_cons_succ, List.length_cons, List.length_nil, Option.toList_some, Option.toList_none, List.cons_append, List.nil_append, Value.category, true_and, k_0, k_1, k_2, k_3, k_4, false_implies, true_implies, reduceCtorEq, hM.1]
    refine ⟨by decide, ⟨_, rfl⟩, (c_failsIf hM (c := decide (Z.2.2.1.2.2 = 14)) (fun p => by unfold erC; simp) rfl h).mono ?_⟩
    rintro r M' ⟨rfl, σ1, rfl, f1, f2⟩
    replace f2 : MS σ1 b L Z k (wh (decide (Z.2.2.1.2.2 = 14)) (-17) (tS b L k)) := f2
    simp only [fi_const, fi_iload, fi_aload, fi_istore, fi_astore, fi_iinc, fi_bin, fi_div, fi_un, fi_dup, fi_dup2, fi_pop, fi_if, fi_cmp, fi_getf, fi_putf, fi_putr, fi_ald, fi_ast, fi_alen, fi_iret, fi_zret, fi_vret, fi_cut, fi_no, fi_s0, fi_s1, fi_s2, fi_s3, fi_s4, fi_v0, fi_v1, fi_v2, fi_v3, fi_v4, fi_v5, fi_n0, fi_n1, fi_n2, fi_mm, fi_stat, fi_alds, fi_tsw, List.getElem?_cons_zero, List.getElem?_cons_succ, List.set_cons_zero, List.set_cons_succ, List.length_cons, List.length_nil, Option.toList_some, Option.toList_none, List.cons_append, List.nil_append, Value.category, true_and, k_0, k_1, k_2, k_3, k_4, false_implies, true_implies, reduceCtorEq, hM.1]
    refine ⟨by decide, ⟨_, rfl⟩, (c_goOn hM f2).mono ?_⟩
    rintro r M' ⟨rfl, σ2, rfl, f3, f4⟩
    simp only [fi_const, fi_iload, fi_aload, fi_istore, fi_astore, fi_iinc, fi_bin, fi_div, fi_un, fi_dup, fi_dup2, fi_pop, fi_if, fi_cmp, fi_getf, fi_putf, fi_putr, fi_ald, fi_ast, fi_alen, fi_iret, fi_zret, fi_vret, fi_cut, fi_no, fi_s0, fi_s1, fi_s2, fi_s3, fi_s4, fi_v0, fi_v1, fi_v2, fi_v3, fi_v4, fi_v5, fi_n0, fi_n1, fi_n2, fi_mm, fi_stat, fi_alds, fi_tsw, List.getElem?_cons_zero, List.getElem?_cons_succ, List.set_cons_zero, List.set_cons_succ, List.length_cons, List.length_nil, Option.toList_some, Option.toList_none, List.cons_append, List.nil_append, Value.category, true_and, k_0, k_1, k_2, k_3, k_4, false_implies, true_implies, reduceCtorEq, hM.1]
    refine ⟨by decide, ⟨_, rfl⟩, (c_seesName hM f4).mono ?_⟩
    rintro r M' ⟨rfl, σ3, rfl, f5, f6, f7⟩
    have hlo := ((tfM.fa f1).tr (tfM.tk f3)).tr f5
    have he := f6.e0
    obtain ⟨e0, -⟩ := f6.cn
    simp only [fi_const, fi_iload, fi_aload, fi_istore, fi_astore, fi_iinc, fi_bin, fi_div, fi_un, fi_dup, fi_dup2, fi_pop, fi_if, fi_cmp, fi_getf, fi_putf, fi_putr, fi_ald, fi_ast, fi_alen, fi_iret, fi_zret, fi_vret, fi_cut, fi_no, fi_s0, fi_s1, fi_s2, fi_s3, fi_s4, fi_v0, fi_v1, fi_v2, fi_v3, fi_v4, fi_v5, fi_n0, fi_n1, fi_n2, fi_mm, fi_stat, fi_alds, fi_tsw, List.getElem?_cons_zero, List.getElem?_cons_succ, List.set_cons_zero, List.set_cons_succ, List.length_cons, List.length_nil, Option.toList_some, Option.toList_none, List.cons_append, List.nil_append, Value.category, true_and, k_0, k_1, k_2, k_3, k_4, false_implies, true_implies, reduceCtorEq, hM.1]
    refine ⟨fun z => ?_, fun z => ?_⟩
    · have w := he.mp z
      simp only [hM.2.2.1, k_80, show 56 + 2 = 58 from rfl, e0, f7 w]
      refine ⟨trivial, i80, by decide, ⟨_, rfl⟩, (c_foundT hM 0 Z.2.2.1.1 _ (by omega)).mono ?_⟩
      rintro r M' ⟨rfl, rfl⟩
      rw [fr_0, f6.2.1]
      simp only [fi_const, fi_iload, fi_aload, fi_istore, fi_astore, fi_iinc, fi_bin, fi_div, fi_un, fi_dup, fi_dup2, fi_pop, fi_if, fi_cmp, fi_getf, fi_putf, fi_putr, fi_ald, fi_ast, fi_alen, fi_iret, fi_zret, fi_vret, fi_cut, fi_no, fi_s0, fi_s1, fi_s2, fi_s3, fi_s4, fi_v0, fi_v1, fi_v2, fi_v3, fi_v4, fi_v5, fi_n0, fi_n1, fi_n2, fi_mm, fi_stat, fi_alds, fi_tsw, List.getElem?_cons_zero, List.getElem?_cons_succ, List.set_cons_zero, List.set_cons_succ, List.length_cons, List.length_nil, Option.toList_some, Option.toList_none, List.cons_append, List.nil_append, Value.category, true_and, k_0, k_1, k_2, k_3, k_4, false_implies, true_implies, reduceCtorEq, hM.1]
      refine ⟨fun q => ?_, fun q => ?_⟩
      · exact l_rs72 (q := true) hM f6 hlo (eLoc_of (fun _ => (decide_eq_true q).symm)) (fun _ => rfl)
      · exact l_rs72 (q := false) hM f6 hlo (eLoc_of (fun _ => (decide_eq_false q).symm)) (fun _ => rfl)
    · refine ⟨fun q => absurd q (by decide), fun q => ?_⟩
      exact l_rs72 (q := false) hM f6 hlo (eLoc_of (fun w => absurd (he.mpr w) z)) (fun w => absurd (he.mpr w) z)
  refine fs_enterC (by decide) (by simp [fs_ok]) (Nat.le_of_ble_eq_true rfl) (fun d => S_X9_readScene_0 ?_)
  show T_X9_readScene_0 g d _ [.ref 56, .null, .null, .null, .null, .null] [] _
  simp only [T_X9_readScene_0, fi_const, fi_iload, fi_aload, fi_istore, fi_astore, fi_iinc, fi_bin, fi_div, fi_un, fi_dup, fi_dup2, fi_pop, fi_if, fi_cmp, fi_getf, fi_putf, fi_putr, fi_ald, fi_ast, fi_alen, fi_iret, fi_zret, fi_vret, fi_cut, fi_no, fi_s0, fi_s1, fi_s2, fi_s3, fi_s4, fi_v0, fi_v1, fi_v2, fi_v3, fi_v4, fi_v5, fi_n0, fi_n1, fi_n2, fi_mm, fi_stat, fi_alds, fi_tsw, List.getElem?_cons_zero, List.getElem?_cons_succ, List.set_cons_zero, List.set_cons_succ, List.length_cons, List.length_nil, Option.toList_some, Option.toList_none, List.cons_append, List.nil_append, Value.category, true_and, k_0, k_1, k_2, k_3, k_4, false_implies, true_implies, reduceCtorEq]
  simp only [fi_const, fi_iload, fi_aload, fi_istore, fi_astore, fi_iinc, fi_bin, fi_div, fi_un, fi_dup, fi_dup2, fi_pop, fi_if, fi_cmp, fi_getf, fi_putf, fi_putr, fi_ald, fi_ast, fi_alen, fi_iret, fi_zret, fi_vret, fi_cut, fi_no, fi_s0, fi_s1, fi_s2, fi_s3, fi_s4, fi_v0, fi_v1, fi_v2, fi_v3, fi_v4, fi_v5, fi_n0, fi_n1, fi_n2, fi_mm, fi_stat, fi_alds, fi_tsw, List.getElem?_cons_zero, List.getElem?_cons_succ, List.set_cons_zero, List.set_cons_succ, List.length_cons, List.length_nil, Option.toList_some, Option.toList_none, List.cons_append, List.nil_append, Value.category, true_and, k_0, k_1, k_2, k_3, k_4, false_implies, true_implies, reduceCtorEq, hM.1]
  simp only [hM.2.2.1, k_82, show 56 + 2 = 58 from rfl, c2]
  refine ⟨trivial, i82, pk_eq Z.2.2.1.2.2 14 (fun w => ?_) (fun w => ?_)⟩
  · have := l20 d; rw [decide_eq_true w] at this; exact this
  · have := l20 d; rw [decide_eq_false w] at this; exact this
/-- settings: the faults -/
def o3S (b : Nat → Nat) (L k : Nat) (Z : Zt) : Option Er := ofE (ofE (wh Z.2.2.2.2 (-15) (tS b L k)) (wh (!(tI b L (tE b L k)).isSome) (-11) (tS b L (tE b L k)))) (wh (bt Z.2.2.2.1 ((tI b L (tE b L k)).getD 0)) (-14) (tS b L (tE b L k)))
theorem sSet_of : (∀ e, o3S b L k Z = some e → sSet b L k Z = .inl e) ∧ (o3S b L k Z = none → ∃ i, tI b L (tE b L k) = some i ∧ (∀ e, eInt b L (loS i) (hiS i) (tE b L (tE b L k)) = some e → sSet b L k Z = .inl e) ∧ (eInt b L (loS i) (hiS i) (tE b L (tE b L k)) = none → sSet b L k Z = .inr ((Z.1, adN Z.2.1 i (nI (tV b L (tE b L (tE b L k)))), Z.2.2.1, Z.2.2.2.1 ||| 1 <<< (nI i &&& 31), Z.2.2.2.2), tE b L (tE b L (tE b L k))))) := by
  unfold sSet o3S
  cases q4 : Z.2.2.2.2 with
  | true =>
    rw [if_pos rfl]
    refine ⟨fun e he => ?_, fun he => ?_⟩
    · simp only [wh, ofE, if_pos] at he; rw [Option.some.inj he]
    · simp [wh, ofE] at he
  | false =>
    rw [if_neg (by decide)]
    cases w : tI b L (tE b L k) with
    | none =>
      refine ⟨fun e he => ?_, fun he => ?_⟩
      · simp [wh, ofE] at he; rw [he]
      · simp [wh, ofE] at he
    | some i =>
      simp only [Option.getD_some]
      cases w2 : bt Z.2.2.2.1 i with
      | true =>
        refine ⟨fun e he => ?_, fun he => ?_⟩
        · simp [wh, ofE] at he; rw [if_pos rfl, he]
        · simp [wh, ofE] at he
      | false =>
        rw [if_neg (by decide)]
        refine ⟨fun e he => ?_, fun _ => ⟨i, rfl, fun e he => ?_, fun he => ?_⟩⟩
        · simp [wh, ofE] at he
        · rw [he]
        · rw [he]
end PR6
