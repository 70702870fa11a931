/-! ===== the reference's reader: names ===== -/
section PR2
variable {g : fs_G} {d : Nat} {S : List fs_Sh} {fr : Bool} {σ : Nat → Nat → Int32} {τ : Nat → Nat → Int64} {b : Nat → Nat} {L : Nat} {Z : Zt} {k : Nat} {o : Option Er}
theorem MS.n15 {x : Int32} (h : MS σ b L Z k o) : MS (fs_u σ 56 15 x) b L Z k o := by
  have e : ∀ c, c ≠ 15 → fs_u σ 56 15 x 56 c = σ 56 c := fun c hc => by simp only [fs_u]; rw [if_neg (fun z => hc z.2)]
  cases o with
  | some e' => exact h.er (tfM.u (by decide) (by decide)) (e 16 (by decide)) (e 17 (by decide))
  | none => exact h.ok (tfM.u (by decide) (by decide)) (e 16 (by decide)) (h.2.2.2.1 rfl).1 ((h.2.2.2.1 rfl).2.1.fa (fun c h1 h2 => e c (by omega)))
theorem l_sees47 (hM : shM S 56) (σ0 : Nat → Nat → Int32) : ∀ n i x σ, i + n = 6 → MS σ b L Z k none → tfM σ0 σ → σ 56 15 = x → fs_R g m_X9_seesName d (0, 0) 47 [.ref 56, .int (nI i)] [] ((S, fr), σ, τ) (fun r M' => r = none ∧ ∃ σ', M' = ((S, fr), σ', τ) ∧ tfM σ0 σ' ∧ MS σ' b L Z k none ∧ σ' 56 15 = nmG b (tS b L k) (tE b L k) n i x)
  | 0, i, x, σ, hi, h, h0, hx => by
    refine S_X9_seesName_47 ?_
    simp only [T_X9_seesName_47, fi_const, fi_iload, fi_aload, fi_istore, fi_astore, fi_iinc, fi_bin, fi_div, fi_un, fi_dup, fi_dup2, fi_pop, fi_if, fi_cmp, fi_getf, fi_putf, fi_putr, fi_ald, fi_ast, fi_alen, fi_iret, fi_zret, fi_vret, fi_cut, fi_no, fi_s0, fi_s1, fi_s2, fi_s3, fi_s4, fi_v0, fi_v1, fi_v2, fi_v3, fi_v4, fi_v5, fi_n0, fi_n1, fi_n2, fi_mm, fi_stat, fi_alds, fi_tsw, List.getElem?_cons_zero, List.getElem?_cons_succ, List.set_cons_zero, List.set_cons_succ, List.length_cons, List.length_nil, Option.toList_some, Option.toList_none, List.cons_append, List.nil_append, Value.category, true_and, k_0, k_1, k_2, k_3, k_4, false_implies, true_implies, reduceCtorEq, hM.1]
    refine pk_le 6 i (fun _ => ?_) (fun z => by omega)
    exact ⟨σ, rfl, h0, h, hx⟩
  | n + 1, i, x, σ, hi, h, h0, hx => by
    obtain ⟨h1, h2, h3, h4, h5⟩ := id h
    obtain ⟨a1, a2, a3, a4, a5, a6⟩ := h4 rfl
    obtain ⟨-, hL, hb⟩ := id h1
    have hE := tE_le (b := b) a1
    have go : ∀ y, fs_R g m_X9_seesName d (0, 0) 47 [.ref 56, .int (nI (i + 1))] [] ((S, fr), fs_u σ 56 15 (x <<< (5 &&& 31) ||| y), τ) (fun r M' => r = none ∧ ∃ σ', M' = ((S, fr), σ', τ) ∧ tfM σ0 σ' ∧ MS σ' b L Z k none ∧ σ' 56 15 = nmG b (tS b L k) (tE b L k) n (i + 1) (x <<< (5 &&& 31) ||| y)) :=
      fun y => l_sees47 hM σ0 n (i + 1) _ _ (by omega) h.n15 (h0.tr (tfM.u (by decide) (by decide))) (u_eq ..)
    refine S_X9_seesName_47 ?_
    simp only [T_X9_seesName_47, fi_const, fi_iload, fi_aload, fi_istore, fi_astore, fi_iinc, fi_bin, fi_div, fi_un, fi_dup, fi_dup2, fi_pop, fi_if, fi_cmp, fi_getf, fi_putf, fi_putr, fi_ald, fi_ast, fi_alen, fi_iret, fi_zret, fi_vret, fi_cut, fi_no, fi_s0, fi_s1, fi_s2, fi_s3, fi_s4, fi_v0, fi_v1, fi_v2, fi_v3, fi_v4, fi_v5, fi_n0, fi_n1, fi_n2, fi_mm, fi_stat, fi_alds, fi_tsw, List.getElem?_cons_zero, List.getElem?_cons_succ, List.set_cons_zero, List.set_cons_succ, List.length_cons, List.length_nil, Option.toList_some, Option.toList_none, List.cons_append, List.nil_append, Value.category, true_and, k_0, k_1, k_2, k_3, k_4, false_implies, true_implies, reduceCtorEq, hM.1, a6, hx, a2.2.1, a2.2.2.1, nI_add, nI_1]
    simp only [nmG]
    refine pk_le 6 i (fun z => by omega) (fun _ => ⟨pk_le (tE b L k) (tS b L k + i) (fun w => ?_) (fun w => ?_), fun z => absurd trivial z⟩)
    · rw [if_neg (by omega)]
      exact go 0
    · rw [if_pos w]
      obtain ⟨hb1, hb2⟩ := hb (tS b L k + i) (by omega)
      have i9 : vp_in (nI (tS b L k + i)) 900 := vp_in_nI (by omega) (by decide)
      simp only [hM.2.1, fi_const, fi_iload, fi_aload, fi_istore, fi_astore, fi_iinc, fi_bin, fi_div, fi_un, fi_dup, fi_dup2, fi_pop, fi_if, fi_cmp, fi_getf, fi_putf, fi_putr, fi_ald, fi_ast, fi_alen, fi_iret, fi_zret, fi_vret, fi_cut, fi_no, fi_s0, fi_s1, fi_s2, fi_s3, fi_s4, fi_v0, fi_v1, fi_v2, fi_v3, fi_v4, fi_v5, fi_n0, fi_n1, fi_n2, fi_mm, fi_stat, fi_alds, fi_tsw, List.getElem?_cons_zero, List.getElem?_cons_succ, List.set_cons_zero, List.set_cons_succ, List.length_cons, List.length_nil, Option.toList_some, Option.toList_none, List.cons_append, List.nil_append, Value.category, true_and, k_0, k_1, k_2, k_3, k_4, false_implies, true_implies, reduceCtorEq, i9, nI_clamp (show tS b L k + i < 2 ^ 31 by omega), show 56 + 1 = 57 from rfl, hb2]
      exact go _
/-- behind the fault of seesName -/
theorem l_seesT (hM : shM S 56) {z : Value} (q : Bool) (h : MS σ b L Z k o) (σ0 : Nat → Nat → Int32) (h0 : tfM σ0 σ) : fs_R g m_X9_seesName d (0, 0) 47 [.ref 56, .int 0] [] ((S, fr), fs_u σ 56 15 0, τ) (fun r M' => r = none ∧ ∃ σ', M' = ((S, fr), σ', τ) ∧ tfM σ0 σ' ∧ MS σ' b L Z k o ∧ (o = none → σ' 56 15 = tN b L k)) := by
  have he := (h.n15 (x := 0)).e0
  cases o with
  | none =>
    refine fs_R_mono (l_sees47 hM σ0 6 0 0 _ rfl h.n15 (h0.tr (tfM.u (by decide) (by decide))) (u_eq ..)) ?_
    rintro r M' ⟨rfl, σ', rfl, f1, f2, f3⟩
    exact ⟨rfl, σ', rfl, f1, f2, fun _ => f3⟩
  | some e =>
    have hne : ¬ fs_u σ 56 15 0 56 16 = 0 := fun w => by cases he.mp w
    refine S_X9_seesName_47 ?_
    simp only [T_X9_seesName_47, fi_const, fi_iload, fi_aload, fi_istore, fi_astore, fi_iinc, fi_bin, fi_div, fi_un, fi_dup, fi_dup2, fi_pop, fi_if, fi_cmp, fi_getf, fi_putf, fi_putr, fi_ald, fi_ast, fi_alen, fi_iret, fi_zret, fi_vret, fi_cut, fi_no, fi_s0, fi_s1, fi_s2, fi_s3, fi_s4, fi_v0, fi_v1, fi_v2, fi_v3, fi_v4, fi_v5, fi_n0, fi_n1, fi_n2, fi_mm, fi_stat, fi_alds, fi_tsw, List.getElem?_cons_zero, List.getElem?_cons_succ, List.set_cons_zero, List.set_cons_succ, List.length_cons, List.length_nil, Option.toList_some, Option.toList_none, List.cons_append, List.nil_append, Value.category, true_and, k_0, k_1, k_2, k_3, k_4, false_implies, true_implies, reduceCtorEq, hM.1]
    refine ⟨fun w => absurd w (by decide), fun _ => ⟨fun w => absurd w hne, fun _ => ?_⟩⟩
    exact ⟨_, rfl, h0.tr (tfM.u (by decide) (by decide)), h.n15, trivial⟩
theorem c_seesName (hM : shM S 56) (h : MS σ b L Z k o) : fs_Ct g m_X9_seesName [.ref 56] ((S, fr), σ, τ) (fun r M' => r = none ∧ ∃ σ', M' = ((S, fr), σ', τ) ∧ tfM σ σ' ∧ MS σ' b L Z k (ofE o (wh (!isNm b L k) (-11) (tS b L k))) ∧ (ofE o (wh (!isNm b L k) (-11) (tS b L k)) = none → σ' 56 15 = tN b L k)) := by
  have hk4 := tK_le b L k
  have bad : (o = none → isNm b L k = false) → ∀ d, fs_R g m_X9_seesName d (0, 0) 30 [.ref 56, .null] [.ref 56] ((S, fr), σ, τ) (fun r M' => r = none ∧ ∃ σ', M' = ((S, fr), σ', τ) ∧ tfM σ σ' ∧ MS σ' b L Z k (ofE o (wh (!isNm b L k) (-11) (tS b L k))) ∧ (ofE o (wh (!isNm b L k) (-11) (tS b L k)) = none → σ' 56 15 = tN b L k)) := by
    intro hn d
    have eo : ofE o (wh true (-11) (tS b L k)) = ofE o (wh (!isNm b L k) (-11) (tS b L k)) := by
      cases o with
      | some e => rfl
      | none => rw [hn rfl]; rfl
    refine S_X9_seesName_30 ?_
    simp only [T_X9_seesName_30, fi_const, fi_iload, fi_aload, fi_istore, fi_astore, fi_iinc, fi_bin, fi_div, fi_un, fi_dup, fi_dup2, fi_pop, fi_if, fi_cmp, fi_getf, fi_putf, fi_putr, fi_ald, fi_ast, fi_alen, fi_iret, fi_zret, fi_vret, fi_cut, fi_no, fi_s0, fi_s1, fi_s2, fi_s3, fi_s4, fi_v0, fi_v1, fi_v2, fi_v3, fi_v4, fi_v5, fi_n0, fi_n1, fi_n2, fi_mm, fi_stat, fi_alds, fi_tsw, List.getElem?_cons_zero, List.getElem?_cons_succ, List.set_cons_zero, List.set_cons_succ, List.length_cons, List.length_nil, Option.toList_some, Option.toList_none, List.cons_append, List.nil_append, Value.category, true_and, k_0, k_1, k_2, k_3, k_4, false_implies, true_implies, reduceCtorEq, hM.1]
    refine ⟨by decide, ⟨_, rfl⟩, (c_failsIf hM (c := true) (fun p => by unfold erC; simp) rfl h).mono ?_⟩
    rintro r M' ⟨rfl, σ1, rfl, f1, f2⟩
    simp only [fi_const, fi_iload, fi_aload, fi_istore, fi_astore, fi_iinc, fi_bin, fi_div, fi_un, fi_dup, fi_dup2, fi_pop, fi_if, fi_cmp, fi_getf, fi_putf, fi_putr, fi_ald, fi_ast, fi_alen, fi_iret, fi_zret, fi_vret, fi_cut, fi_no, fi_s0, fi_s1, fi_s2, fi_s3, fi_s4, fi_v0, fi_v1, fi_v2, fi_v3, fi_v4, fi_v5, fi_n0, fi_n1, fi_n2, fi_mm, fi_stat, fi_alds, fi_tsw, List.getElem?_cons_zero, List.getElem?_cons_succ, List.set_cons_zero, List.set_cons_succ, List.length_cons, List.length_nil, Option.toList_some, Option.toList_none, List.cons_append, List.nil_append, Value.category, true_and, k_0, k_1, k_2, k_3, k_4, false_implies, true_implies, reduceCtorEq, hM.1]
    rw [eo] at f2
    exact l_seesT (z := .null) hM true f2 σ (tfM.fa f1)
  have hsub : o = none → σ 56 13 = kM (tK b L k) ∧ σ 56 11 - σ 56 12 = nI (tE b L k - tS b L k) ∧ (tK b L k = 1 → σ 56 14 = tW b L k) ∧ tE b L k ≤ 900 := fun w => by
    obtain ⟨a1, a2, -⟩ := h.2.2.2.1 w
    have hE := tE_le (b := b) a1
    have hL := h.1.2.1
    exact ⟨a2.1, by rw [a2.2.1, a2.2.2.1, pk_sub hE.1], a2.2.2.2.2, by omega⟩
  refine fs_enterC (by decide) (by simp [fs_ok]) (Nat.le_of_ble_eq_true rfl) (fun d => S_X9_seesName_0 ?_)
  show T_X9_seesName_0 g d _ [.ref 56, .null] [] _
  simp only [T_X9_seesName_0, fi_const, fi_iload, fi_aload, fi_istore, fi_astore, fi_iinc, fi_bin, fi_div, fi_un, fi_dup, fi_dup2, fi_pop, fi_if, fi_cmp, fi_getf, fi_putf, fi_putr, fi_ald, fi_ast, fi_alen, fi_iret, fi_zret, fi_vret, fi_cut, fi_no, fi_s0, fi_s1, fi_s2, fi_s3, fi_s4, fi_v0, fi_v1, fi_v2, fi_v3, fi_v4, fi_v5, fi_n0, fi_n1, fi_n2, fi_mm, fi_stat, fi_alds, fi_tsw, List.getElem?_cons_zero, List.getElem?_cons_succ, List.set_cons_zero, List.set_cons_succ, List.length_cons, List.length_nil, Option.toList_some, Option.toList_none, List.cons_append, List.nil_append, Value.category, true_and, k_0, k_1, k_2, k_3, k_4, false_implies, true_implies, reduceCtorEq]
  simp only [fi_const, fi_iload, fi_aload, fi_istore, fi_astore, fi_iinc, fi_bin, fi_div, fi_un, fi_dup, fi_dup2, fi_pop, fi_if, fi_cmp, fi_getf, fi_putf, fi_putr, fi_ald, fi_ast, fi_alen, fi_iret, fi_zret, fi_vret, fi_cut, fi_no, fi_s0, fi_s1, fi_s2, fi_s3, fi_s4, fi_v0, fi_v1, fi_v2, fi_v3, fi_v4, fi_v5, fi_n0, fi_n1, fi_n2, fi_mm, fi_stat, fi_alds, fi_tsw, List.getElem?_cons_zero, List.getElem?_cons_succ, List.set_cons_zero, List.set_cons_succ, List.length_cons, List.length_nil, Option.toList_some, Option.toList_none, List.cons_append, List.nil_append, Value.category, true_and, k_0, k_1, k_2, k_3, k_4, false_implies, true_implies, reduceCtorEq, hM.1]
  refine ⟨fun z1 => ⟨fun z2 => ⟨fun z3 => ?_, fun z3 => ?_⟩, fun z2 => ?_⟩, fun z1 => ?_⟩
  · have eo : ofE o (wh false (-11) (tS b L k)) = ofE o (wh (!isNm b L k) (-11) (tS b L k)) := by
      cases o with
      | some e => rfl
      | none =>
        obtain ⟨s1, s2, s3, s4⟩ := hsub rfl
        rw [s1, kM_1 hk4] at z1
        rw [s3 z1] at z2
        rw [s2] at z3
        have z3 := (nI_leI (b := 6) (by omega) (by decide)).mp z3
        have : isNm b L k = true := by unfold isNm; rw [decide_eq_true z1, decide_eq_true z2, decide_eq_true z3]; rfl
        rw [this]; rfl
    refine ⟨by decide, ⟨_, rfl⟩, (c_failsIf hM (c := false) (fun p => by unfold erC; simp) rfl h).mono ?_⟩
    rintro r M' ⟨rfl, σ1, rfl, f1, f2⟩
    simp only [fi_const, fi_iload, fi_aload, fi_istore, fi_astore, fi_iinc, fi_bin, fi_div, fi_un, fi_dup, fi_dup2, fi_pop, fi_if, fi_cmp, fi_getf, fi_putf, fi_putr, fi_ald, fi_ast, fi_alen, fi_iret, fi_zret, fi_vret, fi_cut, fi_no, fi_s0, fi_s1, fi_s2, fi_s3, fi_s4, fi_v0, fi_v1, fi_v2, fi_v3, fi_v4, fi_v5, fi_n0, fi_n1, fi_n2, fi_mm, fi_stat, fi_alds, fi_tsw, List.getElem?_cons_zero, List.getElem?_cons_succ, List.set_cons_zero, List.set_cons_succ, List.length_cons, List.length_nil, Option.toList_some, Option.toList_none, List.cons_append, List.nil_append, Value.category, true_and, k_0, k_1, k_2, k_3, k_4, false_implies, true_implies, reduceCtorEq, hM.1]
    rw [eo] at f2
    exact l_seesT (z := .null) hM true f2 σ (tfM.fa f1)
  · refine bad (fun w => ?_) d
    obtain ⟨s1, s2, s3, s4⟩ := hsub w
    rw [s2] at z3
    have : ¬ tE b L k - tS b L k ≤ 6 := fun u => z3 ((nI_leI (b := 6) (by omega) (by decide)).mpr u)
    unfold isNm; rw [decide_eq_false this]; simp
  · refine bad (fun w => ?_) d
    obtain ⟨s1, s2, s3, s4⟩ := hsub w
    rw [s1, kM_1 hk4] at z1
    rw [s3 z1] at z2
    unfold isNm; rw [decide_eq_false z2]; simp
  · refine bad (fun w => ?_) d
    obtain ⟨s1, s2, s3, s4⟩ := hsub w
    rw [s1, kM_1 hk4] at z1
    unfold isNm; rw [decide_eq_false z1]; simp
theorem l_foundT (hM : shM S 56) (f N : Nat) (x : Int32) (hN : f + N ≤ 83) : ∀ n k, k + n = N → fs_R g m_X9_found d (0, 0) 3 [.ref 56, .int (nI f), .int (nI N), .int x, .int (nI k)] [] ((S, fr), σ, τ) (fun r M' => r = some (.int (fndB (fr_ (σ 58) f) x n k)) ∧ ((S, fr), σ, τ) = M')
  | 0, k, hk => by
    refine S_X9_found_3 ?_
    simp only [T_X9_found_3, fi_const, fi_iload, fi_aload, fi_istore, fi_astore, fi_iinc, fi_bin, fi_div, fi_un, fi_dup, fi_dup2, fi_pop, fi_if, fi_cmp, fi_getf, fi_putf, fi_putr, fi_ald, fi_ast, fi_alen, fi_iret, fi_zret, fi_vret, fi_cut, fi_no, fi_s0, fi_s1, fi_s2, fi_s3, fi_s4, fi_v0, fi_v1, fi_v2, fi_v3, fi_v4, fi_v5, fi_n0, fi_n1, fi_n2, fi_mm, fi_stat, fi_alds, fi_tsw, List.getElem?_cons_zero, List.getElem?_cons_succ, List.set_cons_zero, List.set_cons_succ, List.length_cons, List.length_nil, Option.toList_some, Option.toList_none, List.cons_append, List.nil_append, Value.category, true_and, k_0, k_1, k_2, k_3, k_4, false_implies, true_implies, reduceCtorEq, hM.1]
    refine pk_le N k (fun _ => ?_) (fun z => by omega)
    simp [fndB]
  | n + 1, k, hk => by
    refine S_X9_found_3 ?_
    simp only [T_X9_found_3, fi_const, fi_iload, fi_aload, fi_istore, fi_astore, fi_iinc, fi_bin, fi_div, fi_un, fi_dup, fi_dup2, fi_pop, fi_if, fi_cmp, fi_getf, fi_putf, fi_putr, fi_ald, fi_ast, fi_alen, fi_iret, fi_zret, fi_vret, fi_cut, fi_no, fi_s0, fi_s1, fi_s2, fi_s3, fi_s4, fi_v0, fi_v1, fi_v2, fi_v3, fi_v4, fi_v5, fi_n0, fi_n1, fi_n2, fi_mm, fi_stat, fi_alds, fi_tsw, List.getElem?_cons_zero, List.getElem?_cons_succ, List.set_cons_zero, List.set_cons_succ, List.length_cons, List.length_nil, Option.toList_some, Option.toList_none, List.cons_append, List.nil_append, Value.category, true_and, k_0, k_1, k_2, k_3, k_4, false_implies, true_implies, reduceCtorEq, hM.1, hM.2.2.1, nI_add, nI_clamp (show f + k < 2 ^ 31 by omega), show 56 + 2 = 58 from rfl]
    refine pk_le N k (fun z => by omega) (fun _ => ⟨vp_in_nI (by omega) (by decide), fun q => ?_, fun q => ?_⟩)
    · rw [fndB, if_pos (show fr_ (σ 58) f k = x from q)]; exact ⟨rfl, trivial⟩
    · rw [fndB, if_neg (show ¬ fr_ (σ 58) f k = x from q), nI_1]
      exact l_foundT hM f N x hN n (k + 1) (by omega)
theorem c_foundT (hM : shM S 56) (f N : Nat) (x : Int32) (hN : f + N ≤ 83) : fs_Ct g m_X9_found [.ref 56, .int (nI f), .int (nI N), .int x] ((S, fr), σ, τ) (fun r M' => r = some (.int (fndB (fr_ (σ 58) f) x N 0)) ∧ ((S, fr), σ, τ) = M') := by
  refine fs_enterC (by decide) (by simp [fs_ok]) (Nat.le_of_ble_eq_true rfl) (fun d => S_X9_found_0 ?_)
  show T_X9_found_0 g d _ [.ref 56, .int (nI f), .int (nI N), .int x, .null] [] _
  simp only [T_X9_found_0, fi_const, fi_iload, fi_aload, fi_istore, fi_astore, fi_iinc, fi_bin, fi_div, fi_un, fi_dup, fi_dup2, fi_pop, fi_if, fi_cmp, fi_getf, fi_putf, fi_putr, fi_ald, fi_ast, fi_alen, fi_iret, fi_zret, fi_vret, fi_cut, fi_no, fi_s0, fi_s1, fi_s2, fi_s3, fi_s4, fi_v0, fi_v1, fi_v2, fi_v3, fi_v4, fi_v5, fi_n0, fi_n1, fi_n2, fi_mm, fi_stat, fi_alds, fi_tsw, List.getElem?_cons_zero, List.getElem?_cons_succ, List.set_cons_zero, List.set_cons_succ, List.length_cons, List.length_nil, Option.toList_some, Option.toList_none, List.cons_append, List.nil_append, Value.category, true_and, k_0, k_1, k_2, k_3, k_4, false_implies, true_implies, reduceCtorEq]
  exact l_foundT hM f N x hN N 0 (by omega)
theorem fr_0 (f : Nat → Int32) : fr_ f 0 = f := funext fun k => congrArg f (Nat.zero_add k)
theorem MS.cn (h : MS σ b L Z k o) : σ 58 80 = nI Z.2.2.1.1 ∧ σ 58 81 = nI Z.2.2.1.2.1 ∧ σ 58 82 = nI Z.2.2.1.2.2 ∧ Z.2.2.1.1 ≤ 4 ∧ Z.2.2.1.2.1 ≤ 6 ∧ Z.2.2.1.2.2 ≤ 14 := by
  have h2 := h.2.1
  have hT := h.2.2.1.1
  rw [h2]
  have e := zV_2 Z.1 Z.2.1
  exact ⟨by rw [← e]; exact hT.1, by rw [← e]; exact hT.2.1, by rw [← e]; exact hT.2.2.1, hT.2.2.2.1, hT.2.2.2.2.1, hT.2.2.2.2.2.1⟩
theorem l_nn50 (hM : shM S 56) (q : Bool) {z : Value} (h : MS σ b L Z k o) {o0 : Option Er} (ho : ofE o (wh q (-14) (tS b L k)) = ofE o0 (eNew b L k Z.1 Z.2.2.1.1 Z.2.2.1.2.1)) (hn : o = none → σ 56 15 = tN b L k) (σ0 : Nat → Nat → Int32) (h0 : tfM σ0 σ) : fs_R g m_X9_newName d (0, 0) 50 [.ref 56, z] [.int (bI q)] ((S, fr), σ, τ) (fun r M' => (∃ y, r = some (.int y) ∧ (ofE o0 (eNew b L k Z.1 Z.2.2.1.1 Z.2.2.1.2.1) = none → y = tN b L k)) ∧ ∃ σ', M' = ((S, fr), σ', τ) ∧ tfM σ0 σ' ∧ MS σ' b L Z (tE b L k) (ofE o0 (eNew b L k Z.1 Z.2.2.1.1 Z.2.2.1.2.1))) := by
  have he := h.e0
  have tail : ∀ (q' : Bool) (y : Int32), y = bI q' → ofE o (wh q' (-14) (tS b L k)) = ofE o0 (eNew b L k Z.1 Z.2.2.1.1 Z.2.2.1.2.1) → fs_Ct g m_X9_failsIf [.ref 56, .int y, .int (-14)] ((S, fr), σ, τ) (fun r M' => r = none ∧ ∃ σ', M' = ((S, fr), σ', τ) ∧ faM σ σ' ∧ MS σ' b L Z k (ofE o0 (eNew b L k Z.1 Z.2.2.1.1 Z.2.2.1.2.1))) := by
    intro q' y hy e
    have := c_failsIf (g := g) (fr := fr) (τ := τ) hM (c := q') (x := -14) (fun p => by unfold erC; simp) hy h
    rw [e] at this
    exact this
  have fin : ∀ σ1, faM σ σ1 → MS σ1 b L Z k (ofE o0 (eNew b L k Z.1 Z.2.2.1.1 Z.2.2.1.2.1)) → (ofE o0 (eNew b L k Z.1 Z.2.2.1.1 Z.2.2.1.2.1) = none → o = none) → fs_Ct g m_X9_goOn [.ref 56] ((S, fr), σ1, τ) (fun r M' => r = none ∧ ∃ σ', M' = ((S, fr), σ', τ) ∧ tfM σ0 σ' ∧ MS σ' b L Z (tE b L k) (ofE o0 (eNew b L k Z.1 Z.2.2.1.1 Z.2.2.1.2.1)) ∧ (ofE o0 (eNew b L k Z.1 Z.2.2.1.1 Z.2.2.1.2.1) = none → σ' 56 15 = tN b L k)) := by
    intro σ1 f1 f2 f3
    refine (c_goOn hM f2).mono ?_
    rintro r M' ⟨rfl, σ2, rfl, f4, f5⟩
    exact ⟨rfl, σ2, rfl, (h0.tr (tfM.fa f1)).tr (tfM.tk f4), f5, fun w => by rw [f4 56 15 (by omega), f1 56 15 (by omega)]; exact hn (f3 w)⟩
  have on : ofE o0 (eNew b L k Z.1 Z.2.2.1.1 Z.2.2.1.2.1) = none → o = none := fun w => by rw [← ho] at w; exact (ofE_n.mp w).1
  refine S_X9_newName_50 ?_
  simp only [T_X9_newName_50, fi_const, fi_iload, fi_aload, fi_istore, fi_astore, fi_iinc, fi_bin, fi_div, fi_un, fi_dup, fi_dup2, fi_pop, fi_if, fi_cmp, fi_getf, fi_putf, fi_putr, fi_ald, fi_ast, fi_alen, fi_iret, fi_zret, fi_vret, fi_cut, fi_no, fi_s0, fi_s1, fi_s2, fi_s3, fi_s4, fi_v0, fi_v1, fi_v2, fi_v3, fi_v4, fi_v5, fi_n0, fi_n1, fi_n2, fi_mm, fi_stat, fi_alds, fi_tsw, List.getElem?_cons_zero, List.getElem?_cons_succ, List.set_cons_zero, List.set_cons_succ, List.length_cons, List.length_nil, Option.toList_some, Option.toList_none, List.cons_append, List.nil_append, Value.category, true_and, k_0, k_1, k_2, k_3, k_4, false_implies, true_implies, reduceCtorEq, hM.1]
  refine ⟨fun z1 => ?_, fun z1 => ?_⟩
  · simp only [bI_eq0]
    refine ⟨fun z2 => ?_, fun z2 => ?_⟩
    · refine ⟨by decide, ⟨_, rfl⟩, (tail false 0 rfl (by rw [← z2]; exact ho)).mono ?_⟩
      rintro r M' ⟨rfl, σ1, rfl, f1, f2⟩
      simp only [fi_const, fi_iload, fi_aload, fi_istore, fi_astore, fi_iinc, fi_bin, fi_div, fi_un, fi_dup, fi_dup2, fi_pop, fi_if, fi_cmp, fi_getf, fi_putf, fi_putr, fi_ald, fi_ast, fi_alen, fi_iret, fi_zret, fi_vret, fi_cut, fi_no, fi_s0, fi_s1, fi_s2, fi_s3, fi_s4, fi_v0, fi_v1, fi_v2, fi_v3, fi_v4, fi_v5, fi_n0, fi_n1, fi_n2, fi_mm, fi_stat, fi_alds, fi_tsw, List.getElem?_cons_zero, List.getElem?_cons_succ, List.set_cons_zero, List.set_cons_succ, List.length_cons, List.length_nil, Option.toList_some, Option.toList_none, List.cons_append, List.nil_append, Value.category, true_and, k_0, k_1, k_2, k_3, k_4, false_implies, true_implies, reduceCtorEq, hM.1]
      refine ⟨by decide, ⟨_, rfl⟩, (fin σ1 f1 f2 on).mono ?_⟩
      rintro r M' ⟨rfl, σ2, rfl, f4, f5, f6⟩
      simp only [fi_const, fi_iload, fi_aload, fi_istore, fi_astore, fi_iinc, fi_bin, fi_div, fi_un, fi_dup, fi_dup2, fi_pop, fi_if, fi_cmp, fi_getf, fi_putf, fi_putr, fi_ald, fi_ast, fi_alen, fi_iret, fi_zret, fi_vret, fi_cut, fi_no, fi_s0, fi_s1, fi_s2, fi_s3, fi_s4, fi_v0, fi_v1, fi_v2, fi_v3, fi_v4, fi_v5, fi_n0, fi_n1, fi_n2, fi_mm, fi_stat, fi_alds, fi_tsw, List.getElem?_cons_zero, List.getElem?_cons_succ, List.set_cons_zero, List.set_cons_succ, List.length_cons, List.length_nil, Option.toList_some, Option.toList_none, List.cons_append, List.nil_append, Value.category, true_and, k_0, k_1, k_2, k_3, k_4, false_implies, true_implies, reduceCtorEq, hM.1]
      exact ⟨⟨_, rfl, f6⟩, σ2, rfl, f4, f5⟩
    · refine ⟨by decide, ⟨_, rfl⟩, (tail true 1 rfl (by rw [show true = q by cases q; exact absurd rfl z2; rfl]; exact ho)).mono ?_⟩
      rintro r M' ⟨rfl, σ1, rfl, f1, f2⟩
      simp only [fi_const, fi_iload, fi_aload, fi_istore, fi_astore, fi_iinc, fi_bin, fi_div, fi_un, fi_dup, fi_dup2, fi_pop, fi_if, fi_cmp, fi_getf, fi_putf, fi_putr, fi_ald, fi_ast, fi_alen, fi_iret, fi_zret, fi_vret, fi_cut, fi_no, fi_s0, fi_s1, fi_s2, fi_s3, fi_s4, fi_v0, fi_v1, fi_v2, fi_v3, fi_v4, fi_v5, fi_n0, fi_n1, fi_n2, fi_mm, fi_stat, fi_alds, fi_tsw, List.getElem?_cons_zero, List.getElem?_cons_succ, List.set_cons_zero, List.set_cons_succ, List.length_cons, List.length_nil, Option.toList_some, Option.toList_none, List.cons_append, List.nil_append, Value.category, true_and, k_0, k_1, k_2, k_3, k_4, false_implies, true_implies, reduceCtorEq, hM.1]
      refine ⟨by decide, ⟨_, rfl⟩, (fin σ1 f1 f2 on).mono ?_⟩
      rintro r M' ⟨rfl, σ2, rfl, f4, f5, f6⟩
      simp only [fi_const, fi_iload, fi_aload, fi_istore, fi_astore, fi_iinc, fi_bin, fi_div, fi_un, fi_dup, fi_dup2, fi_pop, fi_if, fi_cmp, fi_getf, fi_putf, fi_putr, fi_ald, fi_ast, fi_alen, fi_iret, fi_zret, fi_vret, fi_cut, fi_no, fi_s0, fi_s1, fi_s2, fi_s3, fi_s4, fi_v0, fi_v1, fi_v2, fi_v3, fi_v4, fi_v5, fi_n0, fi_n1, fi_n2, fi_mm, fi_stat, fi_alds, fi_tsw, List.getElem?_cons_zero, List.getElem?_cons_succ, List.set_cons_zero, List.set_cons_succ, List.length_cons, List.length_nil, Option.toList_some, Option.toList_none, List.cons_append, List.nil_append, Value.category, true_and, k_0, k_1, k_2, k_3, k_4, false_implies, true_implies, reduceCtorEq, hM.1]
      exact ⟨⟨_, rfl, f6⟩, σ2, rfl, f4, f5⟩
  · refine ⟨by decide, ⟨_, rfl⟩, (tail false 0 rfl ?_).mono ?_⟩
    · rw [← ho]
      cases o with
      | none => exact absurd (he.mpr rfl) z1
      | some e => rfl
    rintro r M' ⟨rfl, σ1, rfl, f1, f2⟩
    simp only [fi_const, fi_iload, fi_aload, fi_istore, fi_astore, fi_iinc, fi_bin, fi_div, fi_un, fi_dup, fi_dup2, fi_pop, fi_if, fi_cmp, fi_getf, fi_putf, fi_putr, fi_ald, fi_ast, fi_alen, fi_iret, fi_zret, fi_vret, fi_cut, fi_no, fi_s0, fi_s1, fi_s2, fi_s3, fi_s4, fi_v0, fi_v1, fi_v2, fi_v3, fi_v4, fi_v5, fi_n0, fi_n1, fi_n2, fi_mm, fi_stat, fi_alds, fi_tsw, List.getElem?_cons_zero, List.getElem?_cons_succ, List.set_cons_zero, List.set_cons_succ, List.length_cons, List.length_nil, Option.toList_some, Option.toList_none, List.cons_append, List.nil_append, Value.category, true_and, k_0, k_1, k_2, k_3, k_4, false_implies, true_implies, reduceCtorEq, hM.1]
    refine ⟨by decide, ⟨_, rfl⟩, (fin σ1 f1 f2 on).mono ?_⟩
    rintro r M' ⟨rfl, σ2, rfl, f4, f5, f6⟩
    simp only [fi_const, fi_iload, fi_aload, fi_istore, fi_astore, fi_iinc, fi_bin, fi_div, fi_un, fi_dup, fi_dup2, fi_pop, fi_if, fi_cmp, fi_getf, fi_putf, fi_putr, fi_ald, fi_ast, fi_alen, fi_iret, fi_zret, fi_vret, fi_cut, fi_no, fi_s0, fi_s1, fi_s2, fi_s3, fi_s4, fi_v0, fi_v1, fi_v2, fi_v3, fi_v4, fi_v5, fi_n0, fi_n1, fi_n2, fi_mm, fi_stat, fi_alds, fi_tsw, List.getElem?_cons_zero, List.getElem?_cons_succ, List.set_cons_zero, List.set_cons_succ, List.length_cons, List.length_nil, Option.toList_some, Option.toList_none, List.cons_append, List.nil_append, Value.category, true_and, k_0, k_1, k_2, k_3, k_4, false_implies, true_implies, reduceCtorEq, hM.1]
    exact ⟨⟨_, rfl, f6⟩, σ2, rfl, f4, f5⟩
theorem c_newName (hM : shM S 56) (h : MS σ b L Z k o) : fs_Ct g m_X9_newName [.ref 56] ((S, fr), σ, τ) (fun r M' => (∃ y, r = some (.int y) ∧ (ofE o (eNew b L k Z.1 Z.2.2.1.1 Z.2.2.1.2.1) = none → y = tN b L k)) ∧ ∃ σ', M' = ((S, fr), σ', τ) ∧ tfM σ σ' ∧ MS σ' b L Z (tE b L k) (ofE o (eNew b L k Z.1 Z.2.2.1.1 Z.2.2.1.2.1))) := by
  refine fs_enterC (by decide) (by simp [fs_ok]) (Nat.le_of_ble_eq_true rfl) (fun d => S_X9_newName_0 ?_)
  show T_X9_newName_0 g d _ [.ref 56, .null] [] _
  simp only [T_X9_newName_0, fi_const, fi_iload, fi_aload, fi_istore, fi_astore, fi_iinc, fi_bin, fi_div, fi_un, fi_dup, fi_dup2, fi_pop, fi_if, fi_cmp, fi_getf, fi_putf, fi_putr, fi_ald, fi_ast, fi_alen, fi_iret, fi_zret, fi_vret, fi_cut, fi_no, fi_s0, fi_s1, fi_s2, fi_s3, fi_s4, fi_v0, fi_v1, fi_v2, fi_v3, fi_v4, fi_v5, fi_n0, fi_n1, fi_n2, fi_mm, fi_stat, fi_alds, fi_tsw, List.getElem?_cons_zero, List.getElem?_cons_succ, List.set_cons_zero, List.set_cons_succ, List.length_cons, List.length_nil, Option.toList_some, Option.toList_none, List.cons_append, List.nil_append, Value.category, true_and, k_0, k_1, k_2, k_3, k_4, false_implies, true_implies, reduceCtorEq]
  refine ⟨by decide, ⟨_, hM.1⟩, (c_seesName hM h).mono ?_⟩
  rintro r M' ⟨rfl, σ1, rfl, f1, f2, f3⟩
  obtain ⟨c0, c1, c2, c3, c4, c5⟩ := f2.cn
  simp only [fi_const, fi_iload, fi_aload, fi_istore, fi_astore, fi_iinc, fi_bin, fi_div, fi_un, fi_dup, fi_dup2, fi_pop, fi_if, fi_cmp, fi_getf, fi_putf, fi_putr, fi_ald, fi_ast, fi_alen, fi_iret, fi_zret, fi_vret, fi_cut, fi_no, fi_s0, fi_s1, fi_s2, fi_s3, fi_s4, fi_v0, fi_v1, fi_v2, fi_v3, fi_v4, fi_v5, fi_n0, fi_n1, fi_n2, fi_mm, fi_stat, fi_alds, fi_tsw, List.getElem?_cons_zero, List.getElem?_cons_succ, List.set_cons_zero, List.set_cons_succ, List.length_cons, List.length_nil, Option.toList_some, Option.toList_none, List.cons_append, List.nil_append, Value.category, true_and, k_0, k_1, k_2, k_3, k_4, false_implies, true_implies, reduceCtorEq, hM.1]
  simp only [hM.2.2.1, k_80, show 56 + 2 = 58 from rfl, c0]
  -- the second fault
  have key : ∀ q : Bool, (ofE o (wh (!isNm b L k) (-11) (tS b L k)) = none → q = !(decide (fndB Z.1 (tN b L k) Z.2.2.1.1 0 = -1) && decide (fndB (fr_ Z.1 12) (tN b L k) Z.2.2.1.2.1 0 = -1))) → ofE (ofE o (wh (!isNm b L k) (-11) (tS b L k))) (wh q (-14) (tS b L k)) = ofE o (eNew b L k Z.1 Z.2.2.1.1 Z.2.2.1.2.1) := by
    intro q hq
    cases o with
    | some e => rfl
    | none =>
      unfold eNew
      cases w : isNm b L k with
      | false => rfl
      | true =>
        rw [w] at hq
        have := hq rfl
        subst this
        rw [if_pos rfl]
        by_cases u : fndB Z.1 (tN b L k) Z.2.2.1.1 0 = -1 ∧ fndB (fr_ Z.1 12) (tN b L k) Z.2.2.1.2.1 0 = -1
        · rw [if_pos u, decide_eq_true u.1, decide_eq_true u.2]; rfl
        · rw [if_neg u]
          by_cases u1 : fndB Z.1 (tN b L k) Z.2.2.1.1 0 = -1
          · rw [decide_eq_false (fun u2 => u ⟨u1, u2⟩), Bool.and_false]; rfl
          · rw [decide_eq_false u1]; rfl
  refine ⟨trivial, pk_in 80 83 (by decide), by decide, ⟨_, rfl⟩, (c_foundT hM 0 Z.2.2.1.1 _ (by omega)).mono ?_⟩
  rintro r M' ⟨rfl, rfl⟩
  simp only [fi_const, fi_iload, fi_aload, fi_istore, fi_astore, fi_iinc, fi_bin, fi_div, fi_un, fi_dup, fi_dup2, fi_pop, fi_if, fi_cmp, fi_getf, fi_putf, fi_putr, fi_ald, fi_ast, fi_alen, fi_iret, fi_zret, fi_vret, fi_cut, fi_no, fi_s0, fi_s1, fi_s2, fi_s3, fi_s4, fi_v0, fi_v1, fi_v2, fi_v3, fi_v4, fi_v5, fi_n0, fi_n1, fi_n2, fi_mm, fi_stat, fi_alds, fi_tsw, List.getElem?_cons_zero, List.getElem?_cons_succ, List.set_cons_zero, List.set_cons_succ, List.length_cons, List.length_nil, Option.toList_some, Option.toList_none, List.cons_append, List.nil_append, Value.category, true_and, k_0, k_1, k_2, k_3, k_4, false_implies, true_implies, reduceCtorEq, hM.1]
  rw [fr_0, f2.2.1]
  refine ⟨fun z1 => ?_, fun z1 => ?_⟩
  · have c1' := c1
    rw [f2.2.1] at c1'
    simp only [hM.2.2.1, k_81, show 56 + 2 = 58 from rfl, c1']
    refine ⟨trivial, pk_in 81 83 (by decide), by decide, ⟨_, rfl⟩, (c_foundT hM 12 Z.2.2.1.2.1 _ (by omega)).mono ?_⟩
    rintro r M' ⟨rfl, rfl⟩
    simp only [fi_const, fi_iload, fi_aload, fi_istore, fi_astore, fi_iinc, fi_bin, fi_div, fi_un, fi_dup, fi_dup2, fi_pop, fi_if, fi_cmp, fi_getf, fi_putf, fi_putr, fi_ald, fi_ast, fi_alen, fi_iret, fi_zret, fi_vret, fi_cut, fi_no, fi_s0, fi_s1, fi_s2, fi_s3, fi_s4, fi_v0, fi_v1, fi_v2, fi_v3, fi_v4, fi_v5, fi_n0, fi_n1, fi_n2, fi_mm, fi_stat, fi_alds, fi_tsw, List.getElem?_cons_zero, List.getElem?_cons_succ, List.set_cons_zero, List.set_cons_succ, List.length_cons, List.length_nil, Option.toList_some, Option.toList_none, List.cons_append, List.nil_append, Value.category, true_and, k_0, k_1, k_2, k_3, k_4, false_implies, true_implies, reduceCtorEq, hM.1]
    rw [f2.2.1]
    refine ⟨fun z2 => ?_, fun z2 => ?_⟩
    · exact l_nn50 hM false f2 (key false (fun w => by rw [f3 w] at z1 z2; rw [decide_eq_true z1, decide_eq_true z2]; rfl)) f3 σ f1
    · exact l_nn50 hM true f2 (key true (fun w => by rw [f3 w] at z1 z2; rw [decide_eq_true z1, decide_eq_false z2]; rfl)) f3 σ f1
  · exact l_nn50 hM true f2 (key true (fun w => by rw [f3 w] at z1; rw [decide_eq_false z1]; rfl)) f3 σ f1
theorem c_isWordM (hM : shM S 56) (h : MS σ b L Z k o) {w : Nat} (hw : w < 12) : fs_Ct g m_X9_isWord [.ref 56, .int (nI w)] ((S, fr), σ, τ) (fun r M' => r = some (.int (bI (decide (o = none) && decide (tW b L k = nI w)))) ∧ ((S, fr), σ, τ) = M') := by
  have he := h.e0
  have hk4 := tK_le b L k
  refine fs_enterC (by decide) (by simp [fs_ok]) (Nat.le_of_ble_eq_true rfl) (fun d => S_X9_isWord_0 ?_)
  show T_X9_isWord_0 g d _ [.ref 56, .int (nI w)] [] _
  simp only [T_X9_isWord_0, fi_const, fi_iload, fi_aload, fi_istore, fi_astore, fi_iinc, fi_bin, fi_div, fi_un, fi_dup, fi_dup2, fi_pop, fi_if, fi_cmp, fi_getf, fi_putf, fi_putr, fi_ald, fi_ast, fi_alen, fi_iret, fi_zret, fi_vret, fi_cut, fi_no, fi_s0, fi_s1, fi_s2, fi_s3, fi_s4, fi_v0, fi_v1, fi_v2, fi_v3, fi_v4, fi_v5, fi_n0, fi_n1, fi_n2, fi_mm, fi_stat, fi_alds, fi_tsw, List.getElem?_cons_zero, List.getElem?_cons_succ, List.set_cons_zero, List.set_cons_succ, List.length_cons, List.length_nil, Option.toList_some, Option.toList_none, List.cons_append, List.nil_append, Value.category, true_and, k_0, k_1, k_2, k_3, k_4, false_implies, true_implies, reduceCtorEq]
  simp only [fi_const, fi_iload, fi_aload, fi_istore, fi_astore, fi_iinc, fi_bin, fi_div, fi_un, fi_dup, fi_dup2, fi_pop, fi_if, fi_cmp, fi_getf, fi_putf, fi_putr, fi_ald, fi_ast, fi_alen, fi_iret, fi_zret, fi_vret, fi_cut, fi_no, fi_s0, fi_s1, fi_s2, fi_s3, fi_s4, fi_v0, fi_v1, fi_v2, fi_v3, fi_v4, fi_v5, fi_n0, fi_n1, fi_n2, fi_mm, fi_stat, fi_alds, fi_tsw, List.getElem?_cons_zero, List.getElem?_cons_succ, List.set_cons_zero, List.set_cons_succ, List.length_cons, List.length_nil, Option.toList_some, Option.toList_none, List.cons_append, List.nil_append, Value.category, true_and, k_0, k_1, k_2, k_3, k_4, false_implies, true_implies, reduceCtorEq, hM.1]
  refine ⟨fun z1 => ?_, fun z1 => ?_⟩
  · have ho := he.mp z1
    have hT := (h.2.2.2.1 ho).2.1
    rw [hT.1, kM_1 hk4, decide_eq_true ho, Bool.true_and]
    refine ⟨fun z2 => ?_, fun z2 => ?_⟩
    · rw [hT.2.2.2.2 z2]
      refine ⟨fun z3 => ?_, fun z3 => ?_⟩
      · rw [decide_eq_true z3]; exact ⟨Or.inr trivial, rfl, trivial⟩
      · rw [decide_eq_false z3]; exact ⟨Or.inl trivial, rfl, trivial⟩
    · rw [decide_eq_false (fun z3 => ?_)]
      · exact ⟨Or.inl trivial, rfl, trivial⟩
      · unfold tW at z3; rw [if_neg z2] at z3; exact absurd z3.symm (m1n (by omega))
  · rw [decide_eq_false (fun z => z1 (he.mpr z)), Bool.false_and]
    exact ⟨Or.inl trivial, rfl, trivial⟩
end PR2
