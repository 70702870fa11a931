/-! ===== the reference's reader: actors, casts ===== -/
section PR4
variable {g : fs_G} {d : Nat} {S : List fs_Sh} {fr : Bool} {σ : Nat → Nat → Int32} {τ : Nat → Nat → Int64} {b : Nat → Nat} {L : Nat} {Z : Zt} {k : Nat} {o : Option Er}
theorem sAct_of {o' : Option Er} (ho : ofE (ofE (wh (decide (Z.2.2.1.2.1 = 6)) (-17) (tS b L k)) (eNew b L (tE b L k) Z.1 Z.2.2.1.1 Z.2.2.1.2.1)) (eInt b L 0 9999 (tE b L (tE b L k))) = o') : (∀ e, o' = some e → sAct b L k Z = .inl e) ∧ (o' = none → ¬ Z.2.2.1.2.1 = 6 ∧ eInt b L 0 9999 (tE b L (tE b L k)) = none ∧ sAct b L k Z = .inr ((adA Z.1 Z.2.2.1.2.1 (tN b L (tE b L k)) (nI (tV b L (tE b L (tE b L k)))), Z.2.1, (Z.2.2.1.1, Z.2.2.1.2.1 + 1, Z.2.2.1.2.2), Z.2.2.2.1, Z.2.2.2.2), tE b L (tE b L (tE b L k)))) := by
  subst ho
  unfold sAct
  by_cases q4 : Z.2.2.1.2.1 = 6
  · rw [if_pos q4, decide_eq_true q4]
    refine ⟨fun e he => ?_, fun he => ?_⟩
    · simp only [wh, ofE, if_pos] at he; rw [Option.some.inj he]
    · simp [wh, ofE] at he
  · rw [if_neg q4, decide_eq_false q4]
    cases w : eNew b L (tE b L k) Z.1 Z.2.2.1.1 Z.2.2.1.2.1 with
    | some e1 =>
      refine ⟨fun e he => ?_, fun he => ?_⟩
      · simp [wh, ofE] at he; rw [he]
      · simp [wh, ofE] at he
    | none =>
      cases w2 : eInt b L 0 9999 (tE b L (tE b L k)) with
      | some e1 =>
        refine ⟨fun e he => ?_, fun he => ?_⟩
        · simp [wh, ofE] at he; simp only []; rw [he]
        · simp [wh, ofE] at he
      | none =>
        refine ⟨fun e he => ?_, fun _ => ⟨q4, rfl, rfl⟩⟩
        simp [wh, ofE] at he
theorem c_readActorM (hM : shM S 56) (h : MS σ b L Z k none) : fs_Ct g m_X9_readActor [.ref 56] ((S, fr), σ, τ) (rdM S fr τ σ b L (pSem b L (sAct b L k Z))) := by
  obtain ⟨c0, c1, c2, c3, c4, c5⟩ := h.cn
  have i81 : vp_in 81 83 := pk_in 81 83 (by decide) (by decide) (by decide)
  have l20 : ∀ d, fs_R g m_X9_readActor d (0, 0) 20 [.ref 56, .int (nI Z.2.2.1.2.1), .null, .null] [.int (bI (decide (Z.2.2.1.2.1 = 6))), .ref 56] ((S, fr), σ, τ) (rdM S fr τ σ b L (pSem b L (sAct b L k Z))) := by
    intro d
    refine S_X9_readActor_20 ?_
    simp only [T_X9_readActor_20, fi_const, fi_iload, fi_aload, fi_istore, fi_astore, fi_iinc, fi_bin, fi_div, fi_un, fi_dup, fi_dup2, fi_pop, fi_if, fi_cmp, fi_getf, fi_putf, fi_putr, fi_ald, fi_ast, fi_alen, fi_iret, fi_zret, fi_vret, fi_cut, fi_no, fi_s0, fi_s1, fi_s2, fi_s3, fi_s4, fi_v0, fi_v1, fi_v2, fi_v3, fi_v4, fi_v5, fi_n0, fi_n1, fi_n2, fi_mm, fi_stat, fi_alds, fi_tsw, List.getElem?_cons_zero, List.getElem?_cons_succ, List.set_cons_zero, List.set_cons_succ, List.length_cons, List.length_nil, Option.toList_some, Option.toList_none, List.cons_append, List.nil_append, Value.category, true_and, k_0, k_1, k_2, k_3, k_4, false_implies, true_implies, reduceCtorEq, hM.1]
    refine ⟨by decide, ⟨_, rfl⟩, (c_failsIf hM (c := decide (Z.2.2.1.2.1 = 6)) (fun p => by unfold erC; simp) rfl h).mono ?_⟩
    rintro r M' ⟨rfl, σ1, rfl, f1, f2⟩
    replace f2 : MS σ1 b L Z k (wh (decide (Z.2.2.1.2.1 = 6)) (-17) (tS b L k)) := f2
    simp only [fi_const, fi_iload, fi_aload, fi_istore, fi_astore, fi_iinc, fi_bin, fi_div, fi_un, fi_dup, fi_dup2, fi_pop, fi_if, fi_cmp, fi_getf, fi_putf, fi_putr, fi_ald, fi_ast, fi_alen, fi_iret, fi_zret, fi_vret, fi_cut, fi_no, fi_s0, fi_s1, fi_s2, fi_s3, fi_s4, fi_v0, fi_v1, fi_v2, fi_v3, fi_v4, fi_v5, fi_n0, fi_n1, fi_n2, fi_mm, fi_stat, fi_alds, fi_tsw, List.getElem?_cons_zero, List.getElem?_cons_succ, List.set_cons_zero, List.set_cons_succ, List.length_cons, List.length_nil, Option.toList_some, Option.toList_none, List.cons_append, List.nil_append, Value.category, true_and, k_0, k_1, k_2, k_3, k_4, false_implies, true_implies, reduceCtorEq, hM.1]
    refine ⟨by decide, ⟨_, rfl⟩, (c_goOn hM f2).mono ?_⟩
    rintro r M' ⟨rfl, σ2, rfl, f3, f4⟩
    simp only [fi_const, fi_iload, fi_aload, fi_istore, fi_astore, fi_iinc, fi_bin, fi_div, fi_un, fi_dup, fi_dup2, fi_pop, fi_if, fi_cmp, fi_getf, fi_putf, fi_putr, fi_ald, fi_ast, fi_alen, fi_iret, fi_zret, fi_vret, fi_cut, fi_no, fi_s0, fi_s1, fi_s2, fi_s3, fi_s4, fi_v0, fi_v1, fi_v2, fi_v3, fi_v4, fi_v5, fi_n0, fi_n1, fi_n2, fi_mm, fi_stat, fi_alds, fi_tsw, List.getElem?_cons_zero, List.getElem?_cons_succ, List.set_cons_zero, List.set_cons_succ, List.length_cons, List.length_nil, Option.toList_some, Option.toList_none, List.cons_append, List.nil_append, Value.category, true_and, k_0, k_1, k_2, k_3, k_4, false_implies, true_implies, reduceCtorEq, hM.1]
    refine ⟨by decide, ⟨_, rfl⟩, (c_newName hM f4).mono ?_⟩
    rintro r M' ⟨⟨y1, rfl, hy1⟩, σ3, rfl, f5, f6⟩
    simp only [fi_const, fi_iload, fi_aload, fi_istore, fi_astore, fi_iinc, fi_bin, fi_div, fi_un, fi_dup, fi_dup2, fi_pop, fi_if, fi_cmp, fi_getf, fi_putf, fi_putr, fi_ald, fi_ast, fi_alen, fi_iret, fi_zret, fi_vret, fi_cut, fi_no, fi_s0, fi_s1, fi_s2, fi_s3, fi_s4, fi_v0, fi_v1, fi_v2, fi_v3, fi_v4, fi_v5, fi_n0, fi_n1, fi_n2, fi_mm, fi_stat, fi_alds, fi_tsw, List.getElem?_cons_zero, List.getElem?_cons_succ, List.set_cons_zero, List.set_cons_succ, List.length_cons, List.length_nil, Option.toList_some, Option.toList_none, List.cons_append, List.nil_append, Value.category, true_and, k_0, k_1, k_2, k_3, k_4, false_implies, true_implies, reduceCtorEq, hM.1]
    refine ⟨by decide, ⟨_, rfl⟩, (c_integer (lo := 0) (hi := 9999) hM (by decide) (by decide) f6).mono ?_⟩
    rintro r M' ⟨⟨y2, rfl, hy2⟩, σ4, rfl, f7, f8⟩
    have hlo := (((tfM.fa f1).tr (tfM.tk f3)).tr f5).tr f7
    have he4 := f8.e0
    obtain ⟨s1, s2⟩ := sAct_of (Z := Z) (b := b) (L := L) (k := k) rfl
    simp only [fi_const, fi_iload, fi_aload, fi_istore, fi_astore, fi_iinc, fi_bin, fi_div, fi_un, fi_dup, fi_dup2, fi_pop, fi_if, fi_cmp, fi_getf, fi_putf, fi_putr, fi_ald, fi_ast, fi_alen, fi_iret, fi_zret, fi_vret, fi_cut, fi_no, fi_s0, fi_s1, fi_s2, fi_s3, fi_s4, fi_v0, fi_v1, fi_v2, fi_v3, fi_v4, fi_v5, fi_n0, fi_n1, fi_n2, fi_mm, fi_stat, fi_alds, fi_tsw, List.getElem?_cons_zero, List.getElem?_cons_succ, List.set_cons_zero, List.set_cons_succ, List.length_cons, List.length_nil, Option.toList_some, Option.toList_none, List.cons_append, List.nil_append, Value.category, true_and, k_0, k_1, k_2, k_3, k_4, false_implies, true_implies, reduceCtorEq, hM.1]
    refine ⟨fun z => ?_, fun z => ?_⟩
    · have w3 := he4.mp z
      have w2 := (ofE_n.mp w3).1
      obtain ⟨t1, t2, t4⟩ := s2 w3
      have e1 := hy1 w2
      have e2 := hy2 w3
      have hy := (eInt_n t2).2.2
      subst e1
      subst e2
      rw [t4]
      rw [w3] at f8
      generalize tN b L (tE b L k) = y1 at *
      generalize tV b L (tE b L (tE b L k)) = y at *
      have i1 : vp_in (nI (12 + Z.2.2.1.2.1)) 83 := vp_in_nI (by omega) (by decide)
      have i2 : vp_in (nI (18 + Z.2.2.1.2.1)) 83 := vp_in_nI (by omega) (by decide)
      have a1 : (12 : Int32) + nI Z.2.2.1.2.1 = nI (12 + Z.2.2.1.2.1) := nI_add 12 _
      have a2 : (18 : Int32) + nI Z.2.2.1.2.1 = nI (18 + Z.2.2.1.2.1) := nI_add 18 _
      have e81 : fs_u (fs_u σ4 58 (12 + Z.2.2.1.2.1) y1) 58 (18 + Z.2.2.1.2.1) (nI y) 58 81 = nI Z.2.2.1.2.1 := by
        simp only [fs_u]; rw [if_neg (by omega), if_neg (by omega)]; exact f8.cn.2.1
      simp only [hM.2.2.1, show 56 + 2 = 58 from rfl, fi_const, fi_iload, fi_aload, fi_istore, fi_astore, fi_iinc, fi_bin, fi_div, fi_un, fi_dup, fi_dup2, fi_pop, fi_if, fi_cmp, fi_getf, fi_putf, fi_putr, fi_ald, fi_ast, fi_alen, fi_iret, fi_zret, fi_vret, fi_cut, fi_no, fi_s0, fi_s1, fi_s2, fi_s3, fi_s4, fi_v0, fi_v1, fi_v2, fi_v3, fi_v4, fi_v5, fi_n0, fi_n1, fi_n2, fi_mm, fi_stat, fi_alds, fi_tsw, List.getElem?_cons_zero, List.getElem?_cons_succ, List.set_cons_zero, List.set_cons_succ, List.length_cons, List.length_nil, Option.toList_some, Option.toList_none, List.cons_append, List.nil_append, Value.category, true_and, k_0, k_1, k_2, k_3, k_4, false_implies, true_implies, reduceCtorEq, a1, a2, i1, i2, i81, nI_clamp (show 12 + Z.2.2.1.2.1 < 2 ^ 31 by omega), nI_clamp (show 18 + Z.2.2.1.2.1 < 2 ^ 31 by omega), nar_i, k_81, e81, nI_1]
      have hs : ∀ a, a ≠ 58 → fs_u (fs_u (fs_u σ4 58 (12 + Z.2.2.1.2.1) y1) 58 (18 + Z.2.2.1.2.1) (nI y)) 58 81 (nI (Z.2.2.1.2.1 + 1)) a = σ4 a := fun a ha => by rw [fs_u_ne ha, fs_u_ne ha, fs_u_ne ha]
      refine ⟨rfl, _, _, _, none, rfl, ?_, f8.tl hs (T' := adA Z.1 Z.2.2.1.2.1 y1 (nI y)) (c' := (Z.2.2.1.1, Z.2.2.1.2.1 + 1, Z.2.2.1.2.2)) ?_ (okZ_act f8.2.2.1 (show Z.2.2.1.2.1 < 6 by omega) hy), rfl⟩
      · intro a c hac
        rw [← hlo.lo a c hac]
        simp only [fs_u]
        rw [if_neg (by omega), if_neg (by omega), if_neg (by omega)]
      · funext j
        rw [← f8.2.1]
        simp only [fs_u, adA]
        by_cases w1 : j = 81
        · rw [if_pos ⟨trivial, w1⟩, if_neg (by omega), if_neg (by omega), if_pos w1]
        · rw [if_neg (fun z => w1 z.2)]
          by_cases w2 : j = 18 + Z.2.2.1.2.1
          · rw [if_pos ⟨trivial, w2⟩, if_neg (by omega), if_pos w2]
          · rw [if_neg (fun z => w2 z.2)]
            by_cases w3 : j = 12 + Z.2.2.1.2.1
            · rw [if_pos ⟨trivial, w3⟩, if_pos w3]
            · rw [if_neg (fun z => w3 z.2), if_neg w3, if_neg w2, if_neg w1]
    · cases w : ofE (ofE (wh (decide (Z.2.2.1.2.1 = 6)) (-17) (tS b L k)) (eNew b L (tE b L k) Z.1 Z.2.2.1.1 Z.2.2.1.2.1)) (eInt b L 0 9999 (tE b L (tE b L k))) with
      | none => exact absurd (he4.mpr w) z
      | some e =>
        rw [s1 e w]
        rw [w] at f8
        exact ⟨rfl, σ4, Z, _, some e, rfl, hlo.lo, f8, rfl⟩
  refine fs_enterC (by decide) (by simp [fs_ok]) (Nat.le_of_ble_eq_true rfl) (fun d => S_X9_readActor_0 ?_)
  show T_X9_readActor_0 g d _ [.ref 56, .null, .null, .null] [] _
  simp only [T_X9_readActor_0, fi_const, fi_iload, fi_aload, fi_istore, fi_astore, fi_iinc, fi_bin, fi_div, fi_un, fi_dup, fi_dup2, fi_pop, fi_if, fi_cmp, fi_getf, fi_putf, fi_putr, fi_ald, fi_ast, fi_alen, fi_iret, fi_zret, fi_vret, fi_cut, fi_no, fi_s0, fi_s1, fi_s2, fi_s3, fi_s4, fi_v0, fi_v1, fi_v2, fi_v3, fi_v4, fi_v5, fi_n0, fi_n1, fi_n2, fi_mm, fi_stat, fi_alds, fi_tsw, List.getElem?_cons_zero, List.getElem?_cons_succ, List.set_cons_zero, List.set_cons_succ, List.length_cons, List.length_nil, Option.toList_some, Option.toList_none, List.cons_append, List.nil_append, Value.category, true_and, k_0, k_1, k_2, k_3, k_4, false_implies, true_implies, reduceCtorEq]
  simp only [fi_const, fi_iload, fi_aload, fi_istore, fi_astore, fi_iinc, fi_bin, fi_div, fi_un, fi_dup, fi_dup2, fi_pop, fi_if, fi_cmp, fi_getf, fi_putf, fi_putr, fi_ald, fi_ast, fi_alen, fi_iret, fi_zret, fi_vret, fi_cut, fi_no, fi_s0, fi_s1, fi_s2, fi_s3, fi_s4, fi_v0, fi_v1, fi_v2, fi_v3, fi_v4, fi_v5, fi_n0, fi_n1, fi_n2, fi_mm, fi_stat, fi_alds, fi_tsw, List.getElem?_cons_zero, List.getElem?_cons_succ, List.set_cons_zero, List.set_cons_succ, List.length_cons, List.length_nil, Option.toList_some, Option.toList_none, List.cons_append, List.nil_append, Value.category, true_and, k_0, k_1, k_2, k_3, k_4, false_implies, true_implies, reduceCtorEq, hM.1]
  simp only [hM.2.2.1, k_81, show 56 + 2 = 58 from rfl, c1]
  refine ⟨trivial, i81, pk_eq Z.2.2.1.2.1 6 (fun w => ?_) (fun w => ?_)⟩
  · have := l20 d; rw [decide_eq_true w] at this; exact this
  · have := l20 d; rw [decide_eq_false w] at this; exact this
def caM (S : List fs_Sh) (fr : Bool) (τ : Nat → Nat → Int64) (σ : Nat → Nat → Int32) (b : Nat → Nat) (L : Nat) (Z : Zt) (t : Er ⊕ (Int32 × Nat)) : Option Value → fs_M → Prop := fun r M' => ∃ σ', M' = ((S, fr), σ', τ) ∧ tfM σ σ' ∧ (match t with | .inl e => (∃ c, r = some (.int c)) ∧ ∃ k', MS σ' b L Z k' (some e) | .inr (c, k') => r = some (.int c) ∧ MS σ' b L Z k' none ∧ ∀ i, Z.2.2.1.2.1 ≤ i → bt c i = false)
section
variable {σ0 : Nat → Nat → Int32} {e : Er} {c a : Int32} {z : Value} {k' : Nat}
theorem l_rcE (hM : shM S 56) (h : MS σ b L Z k (some e)) (h0 : tfM σ0 σ) : fs_R g m_X9_readCast d (0, 0) 2 [.ref 56, .int c, z] [] ((S, fr), σ, τ) (caM S fr τ σ0 b L Z (.inl e)) := by
  have he := h.e0
  refine S_X9_readCast_2 ?_
  simp only [T_X9_readCast_2, fi_const, fi_iload, fi_aload, fi_istore, fi_astore, fi_iinc, fi_bin, fi_div, fi_un, fi_dup, fi_dup2, fi_pop, fi_if, fi_cmp, fi_getf, fi_putf, fi_putr, fi_ald, fi_ast, fi_alen, fi_iret, fi_zret, fi_vret, fi_cut, fi_no, fi_s0, fi_s1, fi_s2, fi_s3, fi_s4, fi_v0, fi_v1, fi_v2, fi_v3, fi_v4, fi_v5, fi_n0, fi_n1, fi_n2, fi_mm, fi_stat, fi_alds, fi_tsw, List.getElem?_cons_zero, List.getElem?_cons_succ, List.set_cons_zero, List.set_cons_succ, List.length_cons, List.length_nil, Option.toList_some, Option.toList_none, List.cons_append, List.nil_append, Value.category, true_and, k_0, k_1, k_2, k_3, k_4, false_implies, true_implies, reduceCtorEq, hM.1]
  exact ⟨fun w => (by cases he.mp w), fun _ => ⟨σ, rfl, h0, ⟨_, rfl⟩, k, h⟩⟩
theorem l_rc88 (hM : shM S 56) {q : Bool} (h : MS σ b L Z k o) (ho : ofE o (wh q (-14) (tS b L k)) = some e) (h0 : tfM σ0 σ) : fs_R g m_X9_readCast d (0, 0) 88 [.ref 56, .int c, .int a] [.int (bI q), .ref 56] ((S, fr), σ, τ) (caM S fr τ σ0 b L Z (.inl e)) := by
  refine S_X9_readCast_88 ?_
  simp only [T_X9_readCast_88, fi_const, fi_iload, fi_aload, fi_istore, fi_astore, fi_iinc, fi_bin, fi_div, fi_un, fi_dup, fi_dup2, fi_pop, fi_if, fi_cmp, fi_getf, fi_putf, fi_putr, fi_ald, fi_ast, fi_alen, fi_iret, fi_zret, fi_vret, fi_cut, fi_no, fi_s0, fi_s1, fi_s2, fi_s3, fi_s4, fi_v0, fi_v1, fi_v2, fi_v3, fi_v4, fi_v5, fi_n0, fi_n1, fi_n2, fi_mm, fi_stat, fi_alds, fi_tsw, List.getElem?_cons_zero, List.getElem?_cons_succ, List.set_cons_zero, List.set_cons_succ, List.length_cons, List.length_nil, Option.toList_some, Option.toList_none, List.cons_append, List.nil_append, Value.category, true_and, k_0, k_1, k_2, k_3, k_4, false_implies, true_implies, reduceCtorEq, hM.1]
  refine ⟨by decide, ⟨_, rfl⟩, (c_failsIf hM (c := q) (fun p => by unfold erC; simp) rfl h).mono ?_⟩
  rintro r M' ⟨rfl, σ1, rfl, f1, f2⟩
  rw [ho] at f2
  have he := f2.e0
  simp only [fi_const, fi_iload, fi_aload, fi_istore, fi_astore, fi_iinc, fi_bin, fi_div, fi_un, fi_dup, fi_dup2, fi_pop, fi_if, fi_cmp, fi_getf, fi_putf, fi_putr, fi_ald, fi_ast, fi_alen, fi_iret, fi_zret, fi_vret, fi_cut, fi_no, fi_s0, fi_s1, fi_s2, fi_s3, fi_s4, fi_v0, fi_v1, fi_v2, fi_v3, fi_v4, fi_v5, fi_n0, fi_n1, fi_n2, fi_mm, fi_stat, fi_alds, fi_tsw, List.getElem?_cons_zero, List.getElem?_cons_succ, List.set_cons_zero, List.set_cons_succ, List.length_cons, List.length_nil, Option.toList_some, Option.toList_none, List.cons_append, List.nil_append, Value.category, true_and, k_0, k_1, k_2, k_3, k_4, false_implies, true_implies, reduceCtorEq, hM.1]
  refine ⟨fun w => (by cases he.mp w), fun _ => ⟨by decide, ⟨_, rfl⟩, (c_goOn hM f2).mono ?_⟩⟩
  rintro r M' ⟨rfl, σ2, rfl, f3, f4⟩
  exact l_rcE hM f4 ((h0.tr (tfM.fa f1)).tr (tfM.tk f3))
theorem l_rc61 (hM : shM S 56) {q : Bool} (h : MS σ b L Z k o) (ho : ofE o (wh q (-13) (tS b L k)) = some e) (h0 : tfM σ0 σ) : fs_R g m_X9_readCast d (0, 0) 61 [.ref 56, .int c, .int a] [.int (bI q), .ref 56] ((S, fr), σ, τ) (caM S fr τ σ0 b L Z (.inl e)) := by
  refine S_X9_readCast_61 ?_
  simp only [T_X9_readCast_61, fi_const, fi_iload, fi_aload, fi_istore, fi_astore, fi_iinc, fi_bin, fi_div, fi_un, fi_dup, fi_dup2, fi_pop, fi_if, fi_cmp, fi_getf, fi_putf, fi_putr, fi_ald, fi_ast, fi_alen, fi_iret, fi_zret, fi_vret, fi_cut, fi_no, fi_s0, fi_s1, fi_s2, fi_s3, fi_s4, fi_v0, fi_v1, fi_v2, fi_v3, fi_v4, fi_v5, fi_n0, fi_n1, fi_n2, fi_mm, fi_stat, fi_alds, fi_tsw, List.getElem?_cons_zero, List.getElem?_cons_succ, List.set_cons_zero, List.set_cons_succ, List.length_cons, List.length_nil, Option.toList_some, Option.toList_none, List.cons_append, List.nil_append, Value.category, true_and, k_0, k_1, k_2, k_3, k_4, false_implies, true_implies, reduceCtorEq, hM.1]
  refine ⟨by decide, ⟨_, rfl⟩, (c_failsIf hM (c := q) (fun p => by unfold erC; simp) rfl h).mono ?_⟩
  rintro r M' ⟨rfl, σ1, rfl, f1, f2⟩
  rw [ho] at f2
  have he := f2.e0
  simp only [fi_const, fi_iload, fi_aload, fi_istore, fi_astore, fi_iinc, fi_bin, fi_div, fi_un, fi_dup, fi_dup2, fi_pop, fi_if, fi_cmp, fi_getf, fi_putf, fi_putr, fi_ald, fi_ast, fi_alen, fi_iret, fi_zret, fi_vret, fi_cut, fi_no, fi_s0, fi_s1, fi_s2, fi_s3, fi_s4, fi_v0, fi_v1, fi_v2, fi_v3, fi_v4, fi_v5, fi_n0, fi_n1, fi_n2, fi_mm, fi_stat, fi_alds, fi_tsw, List.getElem?_cons_zero, List.getElem?_cons_succ, List.set_cons_zero, List.set_cons_succ, List.length_cons, List.length_nil, Option.toList_some, Option.toList_none, List.cons_append, List.nil_append, Value.category, true_and, k_0, k_1, k_2, k_3, k_4, false_implies, true_implies, reduceCtorEq, hM.1]
  exact ⟨fun w => (by cases he.mp w), fun _ => l_rc88 (q := false) hM f2 rfl (h0.tr (tfM.fa f1))⟩
theorem l_readCast (hM : shM S 56) (σ0 : Nat → Nat → Int32) : ∀ n k c σ z, ct (bt c) Z.2.2.1.2.1 + n = 7 → MS σ b L Z k none → tfM σ0 σ → (∀ i, Z.2.2.1.2.1 ≤ i → bt c i = false) → fs_R g m_X9_readCast d (0, 0) 2 [.ref 56, .int c, z] [] ((S, fr), σ, τ) (caM S fr τ σ0 b L Z (pCast b L Z.1 Z.2.2.1.2.1 n k c))
  | 0, k, c, σ, z, ht, h, h0, hb => by
    have hA := h.cn.2.2.2.2.1
    have := ct_le (bt c) Z.2.2.1.2.1
    omega
  | n + 1, k, c, σ, z, ht, h, h0, hb => by
    obtain ⟨h1, h2, h3, h4, h5⟩ := id h
    obtain ⟨a1, a2, a3, a4, a5, a6⟩ := h4 rfl
    have hA := h.cn.2.2.2.2.1
    have hk4 := tK_le b L k
    have i81 : vp_in 81 83 := pk_in 81 83 (by decide) (by decide) (by decide)
    refine S_X9_readCast_2 ?_
    simp only [T_X9_readCast_2, fi_const, fi_iload, fi_aload, fi_istore, fi_astore, fi_iinc, fi_bin, fi_div, fi_un, fi_dup, fi_dup2, fi_pop, fi_if, fi_cmp, fi_getf, fi_putf, fi_putr, fi_ald, fi_ast, fi_alen, fi_iret, fi_zret, fi_vret, fi_cut, fi_no, fi_s0, fi_s1, fi_s2, fi_s3, fi_s4, fi_v0, fi_v1, fi_v2, fi_v3, fi_v4, fi_v5, fi_n0, fi_n1, fi_n2, fi_mm, fi_stat, fi_alds, fi_tsw, List.getElem?_cons_zero, List.getElem?_cons_succ, List.set_cons_zero, List.set_cons_succ, List.length_cons, List.length_nil, Option.toList_some, Option.toList_none, List.cons_append, List.nil_append, Value.category, true_and, k_0, k_1, k_2, k_3, k_4, false_implies, true_implies, reduceCtorEq, hM.1, a6, a2.1]
    rw [kM_3 hk4]
    simp only [pCast]
    refine ⟨⟨fun q => ?_, fun q => ?_⟩, fun w => absurd trivial w⟩
    · rw [if_pos q]
      exact ⟨σ, rfl, h0, rfl, h, hb⟩
    · rw [if_neg q]
      refine ⟨by decide, ⟨_, rfl⟩, (c_seesName hM h).mono ?_⟩
      rintro r M' ⟨rfl, σ1, rfl, f1, f2, f3⟩
      have h01 := h0.tr f1
      cases q2 : isNm b L k with
      | false =>
        rw [q2] at f2
        replace f2 : MS σ1 b L Z k (some (-11, tS b L k)) := f2
        have he := f2.e0
        rw [if_neg (by decide)]
        simp only [fi_const, fi_iload, fi_aload, fi_istore, fi_astore, fi_iinc, fi_bin, fi_div, fi_un, fi_dup, fi_dup2, fi_pop, fi_if, fi_cmp, fi_getf, fi_putf, fi_putr, fi_ald, fi_ast, fi_alen, fi_iret, fi_zret, fi_vret, fi_cut, fi_no, fi_s0, fi_s1, fi_s2, fi_s3, fi_s4, fi_v0, fi_v1, fi_v2, fi_v3, fi_v4, fi_v5, fi_n0, fi_n1, fi_n2, fi_mm, fi_stat, fi_alds, fi_tsw, List.getElem?_cons_zero, List.getElem?_cons_succ, List.set_cons_zero, List.set_cons_succ, List.length_cons, List.length_nil, Option.toList_some, Option.toList_none, List.cons_append, List.nil_append, Value.category, true_and, k_0, k_1, k_2, k_3, k_4, false_implies, true_implies, reduceCtorEq, hM.1]
        refine ⟨fun w => (by cases he.mp w), fun _ => ⟨fun w => absurd w (by decide), fun _ => ?_⟩⟩
        exact l_rc61 (q := false) hM f2 rfl h01
      | true =>
        rw [q2] at f2 f3
        replace f2 : MS σ1 b L Z k none := f2
        have f3 : σ1 56 15 = tN b L k := f3 rfl
        obtain ⟨c0, c1, -⟩ := f2.cn
        have e16 := f2.e0.mpr rfl
        rw [if_pos rfl]
        simp only [fi_const, fi_iload, fi_aload, fi_istore, fi_astore, fi_iinc, fi_bin, fi_div, fi_un, fi_dup, fi_dup2, fi_pop, fi_if, fi_cmp, fi_getf, fi_putf, fi_putr, fi_ald, fi_ast, fi_alen, fi_iret, fi_zret, fi_vret, fi_cut, fi_no, fi_s0, fi_s1, fi_s2, fi_s3, fi_s4, fi_v0, fi_v1, fi_v2, fi_v3, fi_v4, fi_v5, fi_n0, fi_n1, fi_n2, fi_mm, fi_stat, fi_alds, fi_tsw, List.getElem?_cons_zero, List.getElem?_cons_succ, List.set_cons_zero, List.set_cons_succ, List.length_cons, List.length_nil, Option.toList_some, Option.toList_none, List.cons_append, List.nil_append, Value.category, true_and, k_0, k_1, k_2, k_3, k_4, false_implies, true_implies, reduceCtorEq, hM.1, e16, f3]
        simp only [hM.2.2.1, k_81, show 56 + 2 = 58 from rfl, c1]
        refine ⟨⟨trivial, i81, by decide, ⟨_, rfl⟩, (c_foundT hM 12 Z.2.2.1.2.1 _ (by omega)).mono ?_⟩, fun w => absurd trivial w⟩
        rintro r M' ⟨rfl, rfl⟩
        rw [f2.2.1]
        simp only [fi_const, fi_iload, fi_aload, fi_istore, fi_astore, fi_iinc, fi_bin, fi_div, fi_un, fi_dup, fi_dup2, fi_pop, fi_if, fi_cmp, fi_getf, fi_putf, fi_putr, fi_ald, fi_ast, fi_alen, fi_iret, fi_zret, fi_vret, fi_cut, fi_no, fi_s0, fi_s1, fi_s2, fi_s3, fi_s4, fi_v0, fi_v1, fi_v2, fi_v3, fi_v4, fi_v5, fi_n0, fi_n1, fi_n2, fi_mm, fi_stat, fi_alds, fi_tsw, List.getElem?_cons_zero, List.getElem?_cons_succ, List.set_cons_zero, List.set_cons_succ, List.length_cons, List.length_nil, Option.toList_some, Option.toList_none, List.cons_append, List.nil_append, Value.category, true_and, k_0, k_1, k_2, k_3, k_4, false_implies, true_implies, reduceCtorEq, hM.1]
        refine ⟨fun q3 => ?_, fun q3 => ?_⟩
        · rw [if_pos q3]
          exact l_rc61 (q := true) hM f2 rfl h01
        · rw [if_neg q3]
          rcases fndB_or (f := fr_ Z.1 12) (x := tN b L k) Z.2.2.1.2.1 0 with w | ⟨j, j1, j2, ej⟩
          · exact absurd w q3
          rw [ej, nI_clamp (by omega)]
          -- the place 61
          refine S_X9_readCast_61 ?_
          simp only [T_X9_readCast_61, fi_const, fi_iload, fi_aload, fi_istore, fi_astore, fi_iinc, fi_bin, fi_div, fi_un, fi_dup, fi_dup2, fi_pop, fi_if, fi_cmp, fi_getf, fi_putf, fi_putr, fi_ald, fi_ast, fi_alen, fi_iret, fi_zret, fi_vret, fi_cut, fi_no, fi_s0, fi_s1, fi_s2, fi_s3, fi_s4, fi_v0, fi_v1, fi_v2, fi_v3, fi_v4, fi_v5, fi_n0, fi_n1, fi_n2, fi_mm, fi_stat, fi_alds, fi_tsw, List.getElem?_cons_zero, List.getElem?_cons_succ, List.set_cons_zero, List.set_cons_succ, List.length_cons, List.length_nil, Option.toList_some, Option.toList_none, List.cons_append, List.nil_append, Value.category, true_and, k_0, k_1, k_2, k_3, k_4, false_implies, true_implies, reduceCtorEq, hM.1]
          refine ⟨by decide, ⟨_, rfl⟩, (c_failsIf hM (c := false) (fun p => by unfold erC; simp) rfl f2).mono ?_⟩
          rintro r M' ⟨rfl, σ2, rfl, f4, f5⟩
          replace f5 : MS σ2 b L Z k none := f5
          have e16 := f5.e0.mpr rfl
          have h02 := h01.tr (tfM.fa f4)
          simp only [fi_const, fi_iload, fi_aload, fi_istore, fi_astore, fi_iinc, fi_bin, fi_div, fi_un, fi_dup, fi_dup2, fi_pop, fi_if, fi_cmp, fi_getf, fi_putf, fi_putr, fi_ald, fi_ast, fi_alen, fi_iret, fi_zret, fi_vret, fi_cut, fi_no, fi_s0, fi_s1, fi_s2, fi_s3, fi_s4, fi_v0, fi_v1, fi_v2, fi_v3, fi_v4, fi_v5, fi_n0, fi_n1, fi_n2, fi_mm, fi_stat, fi_alds, fi_tsw, List.getElem?_cons_zero, List.getElem?_cons_succ, List.set_cons_zero, List.set_cons_succ, List.length_cons, List.length_nil, Option.toList_some, Option.toList_none, List.cons_append, List.nil_append, Value.category, true_and, k_0, k_1, k_2, k_3, k_4, false_implies, true_implies, reduceCtorEq, hM.1, e16]
          refine ⟨?_, fun w => absurd trivial w⟩
          rw [bt_has1 (show j < 32 by omega)]
          refine ⟨fun q4 => ?_, fun q4 => ?_⟩
          · rw [if_pos q4]
            exact l_rc88 (q := true) hM f5 rfl h02
          · rw [if_neg q4]
            have q4' : bt c j = false := by cases w : bt c j; rfl; exact absurd w q4
            refine S_X9_readCast_88 ?_
            simp only [T_X9_readCast_88, fi_const, fi_iload, fi_aload, fi_istore, fi_astore, fi_iinc, fi_bin, fi_div, fi_un, fi_dup, fi_dup2, fi_pop, fi_if, fi_cmp, fi_getf, fi_putf, fi_putr, fi_ald, fi_ast, fi_alen, fi_iret, fi_zret, fi_vret, fi_cut, fi_no, fi_s0, fi_s1, fi_s2, fi_s3, fi_s4, fi_v0, fi_v1, fi_v2, fi_v3, fi_v4, fi_v5, fi_n0, fi_n1, fi_n2, fi_mm, fi_stat, fi_alds, fi_tsw, List.getElem?_cons_zero, List.getElem?_cons_succ, List.set_cons_zero, List.set_cons_succ, List.length_cons, List.length_nil, Option.toList_some, Option.toList_none, List.cons_append, List.nil_append, Value.category, true_and, k_0, k_1, k_2, k_3, k_4, false_implies, true_implies, reduceCtorEq, hM.1]
            refine ⟨by decide, ⟨_, rfl⟩, (c_failsIf hM (c := false) (fun p => by unfold erC; simp) rfl f5).mono ?_⟩
            rintro r M' ⟨rfl, σ3, rfl, f6, f7⟩
            replace f7 : MS σ3 b L Z k none := f7
            have e16 := f7.e0.mpr rfl
            have h03 := h02.tr (tfM.fa f6)
            simp only [fi_const, fi_iload, fi_aload, fi_istore, fi_astore, fi_iinc, fi_bin, fi_div, fi_un, fi_dup, fi_dup2, fi_pop, fi_if, fi_cmp, fi_getf, fi_putf, fi_putr, fi_ald, fi_ast, fi_alen, fi_iret, fi_zret, fi_vret, fi_cut, fi_no, fi_s0, fi_s1, fi_s2, fi_s3, fi_s4, fi_v0, fi_v1, fi_v2, fi_v3, fi_v4, fi_v5, fi_n0, fi_n1, fi_n2, fi_mm, fi_stat, fi_alds, fi_tsw, List.getElem?_cons_zero, List.getElem?_cons_succ, List.set_cons_zero, List.set_cons_succ, List.length_cons, List.length_nil, Option.toList_some, Option.toList_none, List.cons_append, List.nil_append, Value.category, true_and, k_0, k_1, k_2, k_3, k_4, false_implies, true_implies, reduceCtorEq, hM.1, e16]
            refine ⟨⟨by decide, ⟨_, rfl⟩, (c_goOn hM f7).mono ?_⟩, fun w => absurd trivial w⟩
            rintro r M' ⟨rfl, σ4, rfl, f8, f9⟩
            refine l_readCast hM σ0 n (tE b L k) (c ||| 1 <<< (nI j &&& 31)) σ4 (.int (nI j)) (by rw [ct_bit (by omega) (by omega) q4']; omega) f9 (h03.tr (tfM.tk f8)) (fun i hi => ?_)
            by_cases y : i < 32
            · rw [bt_or1 (by omega) y, hb i hi, decide_eq_false (by omega)]; rfl
            · exact bt_ge _ (by omega)
theorem c_readCast (hM : shM S 56) (h : MS σ b L Z k none) : fs_Ct g m_X9_readCast [.ref 56] ((S, fr), σ, τ) (caM S fr τ σ b L Z (pCast b L Z.1 Z.2.2.1.2.1 7 k 0)) := by
  refine fs_enterC (by decide) (by simp [fs_ok]) (Nat.le_of_ble_eq_true rfl) (fun d => S_X9_readCast_0 ?_)
  show T_X9_readCast_0 g d _ [.ref 56, .null, .null] [] _
  simp only [T_X9_readCast_0, fi_const, fi_iload, fi_aload, fi_istore, fi_astore, fi_iinc, fi_bin, fi_div, fi_un, fi_dup, fi_dup2, fi_pop, fi_if, fi_cmp, fi_getf, fi_putf, fi_putr, fi_ald, fi_ast, fi_alen, fi_iret, fi_zret, fi_vret, fi_cut, fi_no, fi_s0, fi_s1, fi_s2, fi_s3, fi_s4, fi_v0, fi_v1, fi_v2, fi_v3, fi_v4, fi_v5, fi_n0, fi_n1, fi_n2, fi_mm, fi_stat, fi_alds, fi_tsw, List.getElem?_cons_zero, List.getElem?_cons_succ, List.set_cons_zero, List.set_cons_succ, List.length_cons, List.length_nil, Option.toList_some, Option.toList_none, List.cons_append, List.nil_append, Value.category, true_and, k_0, k_1, k_2, k_3, k_4, false_implies, true_implies, reduceCtorEq]
  refine l_readCast hM σ 7 k 0 σ .null ?_ h tfM.rf (fun i _ => bt_zero i)
  rw [show ct (bt 0) Z.2.2.1.2.1 = 0 from (ct_congr (fun i _ => bt_zero i)).trans (ct_zero _)]
theorem c_readCastE (hM : shM S 56) (h : MS σ b L Z k (some e)) : fs_Ct g m_X9_readCast [.ref 56] ((S, fr), σ, τ) (caM S fr τ σ b L Z (.inl e)) := by
  refine fs_enterC (by decide) (by simp [fs_ok]) (Nat.le_of_ble_eq_true rfl) (fun d => S_X9_readCast_0 ?_)
  show T_X9_readCast_0 g d _ [.ref 56, .null, .null] [] _
  simp only [T_X9_readCast_0, fi_const, fi_iload, fi_aload, fi_istore, fi_astore, fi_iinc, fi_bin, fi_div, fi_un, fi_dup, fi_dup2, fi_pop, fi_if, fi_cmp, fi_getf, fi_putf, fi_putr, fi_ald, fi_ast, fi_alen, fi_iret, fi_zret, fi_vret, fi_cut, fi_no, fi_s0, fi_s1, fi_s2, fi_s3, fi_s4, fi_v0, fi_v1, fi_v2, fi_v3, fi_v4, fi_v5, fi_n0, fi_n1, fi_n2, fi_mm, fi_stat, fi_alds, fi_tsw, List.getElem?_cons_zero, List.getElem?_cons_succ, List.set_cons_zero, List.set_cons_succ, List.length_cons, List.length_nil, Option.toList_some, Option.toList_none, List.cons_append, List.nil_append, Value.category, true_and, k_0, k_1, k_2, k_3, k_4, false_implies, true_implies, reduceCtorEq]
  exact l_rcE hM h tfM.rf
end
end PR4
