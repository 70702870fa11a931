/-! ===== the reference's rain: shoots, rains ===== -/
theorem li_8 (k : Nat) : (8 : Int32) + nI k = nI (8 + k) := nI_add 8 k
/-- what the reference's state is for rain -/
def rnH (σ : Nat → Nat → Int32) (m nS c : Nat) : Prop := σ (m + 2) 82 = nI nS ∧ laid σ m nS ∧ b01 (fr_ (σ (m + 2)) 52) nS ∧ b01 (fr_ (σ (m + 2)) 8) 4 ∧ plOK (plF (fr_ (σ (m + 4)) 4) (fr_ (σ (m + 2)) 24) nS) ∧ (∀ e, e < 12 → (scF (fr_ (σ (m + 4)) 4) e nS = 0 ↔ plF (fr_ (σ (m + 4)) 4) (fr_ (σ (m + 2)) 24) nS e = -1)) ∧ c ≤ 64 ∧ σ m 26 = nI c ∧ ∀ j, j < c → σ (m + 9) j = -1 ∨ ∃ e, e < 12 ∧ σ (m + 9) j = nI e
abbrev r_sc (σ : Nat → Nat → Int32) (m nS : Nat) : Nat → Int32 := fun e => scF (fr_ (σ (m + 4)) 4) e nS
abbrev r_pl (σ : Nat → Nat → Int32) (m nS : Nat) : Nat → Int32 := plF (fr_ (σ (m + 4)) 4) (fr_ (σ (m + 2)) 24) nS
abbrev r_ni (σ : Nat → Nat → Int32) (m nS : Nat) : Nat → Int32 := pnF (fr_ (σ (m + 4)) 4) (fr_ (σ (m + 2)) 52) nS
abbrev r_cs (σ : Nat → Nat → Int32) (m nS : Nat) : Nat → Int32 := fun e => caF (fr_ (σ (m + 4)) 4) (fr_ (σ (m + 2)) 66) e nS
abbrev r_in (σ : Nat → Nat → Int32) (m : Nat) : Nat → Int32 := fr_ (σ (m + 2)) 8
abbrev r_ti (σ : Nat → Nat → Int32) (m nS c : Nat) : Int32 := tiC (r_ni σ m nS) (r_cs σ m nS) (σ (m + 9)) c
section PR4
variable {g : fs_G} {d : Nat} {S : List fs_Sh} {fr : Bool} {σ : Nat → Nat → Int32} {τ : Nat → Nat → Int64} {m nS c : Nat}
theorem rnH_pl (h : rnH σ m nS c) {e : Nat} (he : e < 12) (h0 : ¬ r_sc σ m nS e = 0) : ∃ l, l < 4 ∧ r_pl σ m nS e = nI l := by
  obtain ⟨-, -, -, -, h5, h6, -⟩ := h
  rcases h5 e he with q | q
  · exact absurd ((h6 e he).mpr q) h0
  · exact q
theorem l_cover (hM : shM S m) (hnS : nS ≤ 14) (h : rnH σ m nS c) (q : Int32) (rn : Bool) (j3 j4 : Value) : ∀ n k, k + n = 12 → fs_R g m_X9_shoots d (0, 0) 77 [.ref m, .int q, .int (bI rn), j3, j4, .int (nI k)] [] ((S, fr), σ, τ) (fun x M' => x = some (.int (cvF (r_sc σ m nS) (r_pl σ m nS) (r_ni σ m nS) (r_cs σ m nS) (r_in σ m) q (r_ti σ m nS c) n k)) ∧ ((S, fr), (if cvF (r_sc σ m nS) (r_pl σ m nS) (r_ni σ m nS) (r_cs σ m nS) (r_in σ m) q (r_ti σ m nS c) n k = -1 then fs_u σ m 27 (σ m 27 + 1) else σ), τ) = M')
  | 0, k, hk => by
    refine S_X9_shoots_77 ?_
    simp only [T_X9_shoots_77, fi_const, fi_iload, fi_aload, fi_istore, fi_astore, fi_iinc, fi_bin, fi_div, fi_un, fi_dup, fi_dup2, fi_pop, fi_if, fi_cmp, fi_getf, fi_putf, fi_putr, fi_ald, fi_ast, fi_alen, fi_iret, fi_zret, fi_vret, fi_cut, fi_no, fi_s0, fi_s1, fi_s2, fi_s3, fi_s4, fi_v0, fi_v1, fi_v2, fi_v3, fi_v4, fi_v5, fi_n0, fi_n1, fi_n2, fi_mm, fi_stat, fi_alds, fi_tsw, List.getElem?_cons_zero, List.getElem?_cons_succ, List.set_cons_zero, List.set_cons_succ, List.length_cons, List.length_nil, Option.toList_some, Option.toList_none, List.cons_append, List.nil_append, Value.category, true_and, k_0, k_1, k_2, k_3, k_4, false_implies, true_implies, reduceCtorEq, hM.1]
    refine pk_le 12 k (fun _ => ?_) (fun h2 => by omega)
    simp [cvF]
  | n + 1, k, hk => by
    have ih := l_cover hM hnS h q rn j3 j4 n (k + 1) (by omega)
    have h' := h
    obtain ⟨h1, h2, h3, h4, h5, h6, h7, h8, h9⟩ := h'
    refine S_X9_shoots_77 ?_
    simp only [T_X9_shoots_77, fi_const, fi_iload, fi_aload, fi_istore, fi_astore, fi_iinc, fi_bin, fi_div, fi_un, fi_dup, fi_dup2, fi_pop, fi_if, fi_cmp, fi_getf, fi_putf, fi_putr, fi_ald, fi_ast, fi_alen, fi_iret, fi_zret, fi_vret, fi_cut, fi_no, fi_s0, fi_s1, fi_s2, fi_s3, fi_s4, fi_v0, fi_v1, fi_v2, fi_v3, fi_v4, fi_v5, fi_n0, fi_n1, fi_n2, fi_mm, fi_stat, fi_alds, fi_tsw, List.getElem?_cons_zero, List.getElem?_cons_succ, List.set_cons_zero, List.set_cons_succ, List.length_cons, List.length_nil, Option.toList_some, Option.toList_none, List.cons_append, List.nil_append, Value.category, true_and, k_0, k_1, k_2, k_3, k_4, false_implies, true_implies, reduceCtorEq, bt_has1 (show k < 32 by omega), nI_1]
    refine pk_le 12 k (fun h2 => by omega) (fun _ => ⟨fun qb => ⟨by decide, ⟨_, hM.1⟩, (c_isFreeM hM hnS h1 h2 (by omega)).mono ?_⟩, fun qb => ?_⟩)
    · rintro x M' ⟨rfl, rfl⟩
      simp only [fi_const, fi_iload, fi_aload, fi_istore, fi_astore, fi_iinc, fi_bin, fi_div, fi_un, fi_dup, fi_dup2, fi_pop, fi_if, fi_cmp, fi_getf, fi_putf, fi_putr, fi_ald, fi_ast, fi_alen, fi_iret, fi_zret, fi_vret, fi_cut, fi_no, fi_s0, fi_s1, fi_s2, fi_s3, fi_s4, fi_v0, fi_v1, fi_v2, fi_v3, fi_v4, fi_v5, fi_n0, fi_n1, fi_n2, fi_mm, fi_stat, fi_alds, fi_tsw, List.getElem?_cons_zero, List.getElem?_cons_succ, List.set_cons_zero, List.set_cons_succ, List.length_cons, List.length_nil, Option.toList_some, Option.toList_none, List.cons_append, List.nil_append, Value.category, true_and, k_0, k_1, k_2, k_3, k_4, false_implies, true_implies, reduceCtorEq, bI_eq0, decide_eq_false_iff_not, hM.1, nI_1]
      refine ⟨fun q2 => ⟨by decide, ⟨_, rfl⟩, (c_placeOf hM hnS h1 k).mono ?_⟩, fun q2 => ?_⟩
      · obtain ⟨l, hl4, el⟩ := rnH_pl h (show k < 12 by omega) q2
        rintro x M' ⟨rfl, rfl⟩
        have el' : plF (fr_ (σ (m + 4)) 4) (fr_ (σ (m + 2)) 24) nS k = nI l := el
        rw [el']
        simp only [fi_const, fi_iload, fi_aload, fi_istore, fi_astore, fi_iinc, fi_bin, fi_div, fi_un, fi_dup, fi_dup2, fi_pop, fi_if, fi_cmp, fi_getf, fi_putf, fi_putr, fi_ald, fi_ast, fi_alen, fi_iret, fi_zret, fi_vret, fi_cut, fi_no, fi_s0, fi_s1, fi_s2, fi_s3, fi_s4, fi_v0, fi_v1, fi_v2, fi_v3, fi_v4, fi_v5, fi_n0, fi_n1, fi_n2, fi_mm, fi_stat, fi_alds, fi_tsw, List.getElem?_cons_zero, List.getElem?_cons_succ, List.set_cons_zero, List.set_cons_succ, List.length_cons, List.length_nil, Option.toList_some, Option.toList_none, List.cons_append, List.nil_append, Value.category, true_and, k_0, k_1, k_2, k_3, k_4, false_implies, true_implies, reduceCtorEq, hM.1, hM.2.2.1, li_8, nI_clamp (show 8 + l < 2 ^ 31 by omega), nI_1]
        have hou : ouF (r_sc σ m nS) (r_pl σ m nS) (r_in σ m) k = decide (σ (m + 2) (8 + l) = 0) := by
          unfold ouF
          rw [el, nI_clamp (by omega)]
          simp only [q2, decide_false, Bool.not_false, Bool.true_and]
          rfl
        refine ⟨vp_in_nI (by omega) (by decide), fun q3 => ⟨by decide, ⟨_, rfl⟩, (c_canWork hM hnS h1 h2 h3 h7 h8 h9 (by omega)).mono ?_⟩, fun q3 => ?_⟩
        · rintro x M' ⟨rfl, rfl⟩
          simp only [fi_const, fi_iload, fi_aload, fi_istore, fi_astore, fi_iinc, fi_bin, fi_div, fi_un, fi_dup, fi_dup2, fi_pop, fi_if, fi_cmp, fi_getf, fi_putf, fi_putr, fi_ald, fi_ast, fi_alen, fi_iret, fi_zret, fi_vret, fi_cut, fi_no, fi_s0, fi_s1, fi_s2, fi_s3, fi_s4, fi_v0, fi_v1, fi_v2, fi_v3, fi_v4, fi_v5, fi_n0, fi_n1, fi_n2, fi_mm, fi_stat, fi_alds, fi_tsw, List.getElem?_cons_zero, List.getElem?_cons_succ, List.set_cons_zero, List.set_cons_succ, List.length_cons, List.length_nil, Option.toList_some, Option.toList_none, List.cons_append, List.nil_append, Value.category, true_and, k_0, k_1, k_2, k_3, k_4, false_implies, true_implies, reduceCtorEq, bI_eq0, nI_1]
          have hou' : ouF (r_sc σ m nS) (r_pl σ m nS) (r_in σ m) k = false := by rw [hou, q3]; decide
          refine ⟨fun q4 => ?_, fun q4 => ?_⟩
          · rw [cvF, if_neg (by simp [q4])]; exact ih
          · rw [cvF, if_pos (by simp [qb, q2, hou', (by simpa using q4 : reR (r_ni σ m nS) (r_cs σ m nS) (r_ti σ m nS c) k = true)])]
            rw [if_neg (m1n (by omega))]
            exact ⟨rfl, rfl⟩
        · have hz : σ (m + 2) (8 + l) = 0 := (h4 l hl4).resolve_right q3
          rw [cvF, if_neg (by simp [hou, hz])]; exact ih
      · rw [cvF, if_neg (by simp [Decidable.of_not_not q2])]; exact ih
    · rw [cvF, if_neg (by simp [(by simpa using qb : bt q k = false)])]; exact ih
theorem c_shoots (hM : shM S m) (hnS : nS ≤ 14) (h : rnH σ m nS c) {q : Int32} (h12 : d12 q) (h0 : ¬ q = 0) (rn : Bool) : fs_Ct g m_X9_shoots [.ref m, .int q, .int (bI rn)] ((S, fr), σ, τ) (fun x M' => x = some (.int (chF (r_sc σ m nS) (r_pl σ m nS) (r_ni σ m nS) (r_cs σ m nS) (r_in σ m) q (r_ti σ m nS c) rn (fiN (bt q) 12 0))) ∧ ((S, fr), (if lfF (r_sc σ m nS) (r_pl σ m nS) (r_ni σ m nS) (r_cs σ m nS) (r_in σ m) q (r_ti σ m nS c) rn (fiN (bt q) 12 0) then fs_u σ m 27 (σ m 27 + 1) else σ), τ) = M') := by
  have hi := fiN_lt h12 h0
  obtain ⟨-, -, hb3, hb4⟩ := fiN_spec (f := bt q) 12 0
  generalize hfi : fiN (bt q) 12 0 = i at hi hb3 hb4 ⊢
  have h' := h
  obtain ⟨h1, h2, h3, h4, h5, h6, h7, h8, h9⟩ := h'
  have c51 : ∀ d (j4 j5 : Value) (wet : Bool), wet = (rn && ouF (r_sc σ m nS) (r_pl σ m nS) (r_in σ m) i) → fs_R g m_X9_shoots d (0, 0) 51 [.ref m, .int q, .int (bI rn), .int (nI i), j4, j5] [.int (bI wet)] ((S, fr), σ, τ) (fun x M' => x = some (.int (chF (r_sc σ m nS) (r_pl σ m nS) (r_ni σ m nS) (r_cs σ m nS) (r_in σ m) q (r_ti σ m nS c) rn i)) ∧ ((S, fr), (if lfF (r_sc σ m nS) (r_pl σ m nS) (r_ni σ m nS) (r_cs σ m nS) (r_in σ m) q (r_ti σ m nS c) rn i then fs_u σ m 27 (σ m 27 + 1) else σ), τ) = M') := by
    intro d j4 j5 wet hw
    unfold chF lfF
    rw [← hw]
    refine S_X9_shoots_51 ?_
    simp only [T_X9_shoots_51, fi_const, fi_iload, fi_aload, fi_istore, fi_astore, fi_iinc, fi_bin, fi_div, fi_un, fi_dup, fi_dup2, fi_pop, fi_if, fi_cmp, fi_getf, fi_putf, fi_putr, fi_ald, fi_ast, fi_alen, fi_iret, fi_zret, fi_vret, fi_cut, fi_no, fi_s0, fi_s1, fi_s2, fi_s3, fi_s4, fi_v0, fi_v1, fi_v2, fi_v3, fi_v4, fi_v5, fi_n0, fi_n1, fi_n2, fi_mm, fi_stat, fi_alds, fi_tsw, List.getElem?_cons_zero, List.getElem?_cons_succ, List.set_cons_zero, List.set_cons_succ, List.length_cons, List.length_nil, Option.toList_some, Option.toList_none, List.cons_append, List.nil_append, Value.category, true_and, k_0, k_1, k_2, k_3, k_4, false_implies, true_implies, reduceCtorEq, bI_eq0, nI_1]
    refine ⟨fun w => ⟨by decide, ⟨_, hM.1⟩, (c_canWork hM hnS h1 h2 h3 h7 h8 h9 hi).mono ?_⟩, fun w => ?_⟩
    · subst w
      rintro x M' ⟨rfl, rfl⟩
      simp only [fi_const, fi_iload, fi_aload, fi_istore, fi_astore, fi_iinc, fi_bin, fi_div, fi_un, fi_dup, fi_dup2, fi_pop, fi_if, fi_cmp, fi_getf, fi_putf, fi_putr, fi_ald, fi_ast, fi_alen, fi_iret, fi_zret, fi_vret, fi_cut, fi_no, fi_s0, fi_s1, fi_s2, fi_s3, fi_s4, fi_v0, fi_v1, fi_v2, fi_v3, fi_v4, fi_v5, fi_n0, fi_n1, fi_n2, fi_mm, fi_stat, fi_alds, fi_tsw, List.getElem?_cons_zero, List.getElem?_cons_succ, List.set_cons_zero, List.set_cons_succ, List.length_cons, List.length_nil, Option.toList_some, Option.toList_none, List.cons_append, List.nil_append, Value.category, true_and, k_0, k_1, k_2, k_3, k_4, false_implies, true_implies, reduceCtorEq, bI_eq0, Bool.false_and, if_neg (show ¬ false = true by decide)]
      exact ⟨fun z => by simp [z], fun z => by simp [z]⟩
    · have w : wet = true := by simpa using w
      subst w
      simp only [Bool.true_and, if_true, decide_eq_true_iff]
      exact l_cover hM hnS h q rn _ _ (11 - i) (i + 1) (by omega)
  have loop : ∀ d n k, k + n = i → fs_R g m_X9_shoots d (0, 0) 2 [.ref m, .int q, .int (bI rn), .int (nI k), .null, .null] [] ((S, fr), σ, τ) (fun x M' => x = some (.int (chF (r_sc σ m nS) (r_pl σ m nS) (r_ni σ m nS) (r_cs σ m nS) (r_in σ m) q (r_ti σ m nS c) rn i)) ∧ ((S, fr), (if lfF (r_sc σ m nS) (r_pl σ m nS) (r_ni σ m nS) (r_cs σ m nS) (r_in σ m) q (r_ti σ m nS c) rn i then fs_u σ m 27 (σ m 27 + 1) else σ), τ) = M') := by
    intro d n
    induction n with
    | succ n ih =>
      intro k hk
      refine S_X9_shoots_2 ?_
      simp only [T_X9_shoots_2, fi_const, fi_iload, fi_aload, fi_istore, fi_astore, fi_iinc, fi_bin, fi_div, fi_un, fi_dup, fi_dup2, fi_pop, fi_if, fi_cmp, fi_getf, fi_putf, fi_putr, fi_ald, fi_ast, fi_alen, fi_iret, fi_zret, fi_vret, fi_cut, fi_no, fi_s0, fi_s1, fi_s2, fi_s3, fi_s4, fi_v0, fi_v1, fi_v2, fi_v3, fi_v4, fi_v5, fi_n0, fi_n1, fi_n2, fi_mm, fi_stat, fi_alds, fi_tsw, List.getElem?_cons_zero, List.getElem?_cons_succ, List.set_cons_zero, List.set_cons_succ, List.length_cons, List.length_nil, Option.toList_some, Option.toList_none, List.cons_append, List.nil_append, Value.category, true_and, k_0, k_1, k_2, k_3, k_4, false_implies, true_implies, reduceCtorEq, bt_has (show k < 32 by omega), nI_1]
      exact ⟨fun _ => ih (k + 1) (by omega), fun z => absurd (hb4 k (by omega) (by omega)) z⟩
    | zero =>
      intro k hk
      have hki : k = i := by omega
      subst hki
      refine S_X9_shoots_2 ?_
      simp only [T_X9_shoots_2, fi_const, fi_iload, fi_aload, fi_istore, fi_astore, fi_iinc, fi_bin, fi_div, fi_un, fi_dup, fi_dup2, fi_pop, fi_if, fi_cmp, fi_getf, fi_putf, fi_putr, fi_ald, fi_ast, fi_alen, fi_iret, fi_zret, fi_vret, fi_cut, fi_no, fi_s0, fi_s1, fi_s2, fi_s3, fi_s4, fi_v0, fi_v1, fi_v2, fi_v3, fi_v4, fi_v5, fi_n0, fi_n1, fi_n2, fi_mm, fi_stat, fi_alds, fi_tsw, List.getElem?_cons_zero, List.getElem?_cons_succ, List.set_cons_zero, List.set_cons_succ, List.length_cons, List.length_nil, Option.toList_some, Option.toList_none, List.cons_append, List.nil_append, Value.category, true_and, k_0, k_1, k_2, k_3, k_4, false_implies, true_implies, reduceCtorEq, bt_has (show k < 32 by omega), nI_1]
      refine ⟨fun z => absurd (hb3 (by omega)) (by rw [z]; simp), fun z => ⟨by decide, ⟨_, hM.1⟩, (c_isFreeM hM hnS h1 h2 hi).mono ?_⟩⟩
      rintro x M' ⟨rfl, rfl⟩
      simp only [fi_const, fi_iload, fi_aload, fi_istore, fi_astore, fi_iinc, fi_bin, fi_div, fi_un, fi_dup, fi_dup2, fi_pop, fi_if, fi_cmp, fi_getf, fi_putf, fi_putr, fi_ald, fi_ast, fi_alen, fi_iret, fi_zret, fi_vret, fi_cut, fi_no, fi_s0, fi_s1, fi_s2, fi_s3, fi_s4, fi_v0, fi_v1, fi_v2, fi_v3, fi_v4, fi_v5, fi_n0, fi_n1, fi_n2, fi_mm, fi_stat, fi_alds, fi_tsw, List.getElem?_cons_zero, List.getElem?_cons_succ, List.set_cons_zero, List.set_cons_succ, List.length_cons, List.length_nil, Option.toList_some, Option.toList_none, List.cons_append, List.nil_append, Value.category, true_and, k_0, k_1, k_2, k_3, k_4, false_implies, true_implies, reduceCtorEq, bI_eq0, decide_eq_false_iff_not, hM.1]
      refine ⟨fun q2 => ⟨fun q3 => ?_, fun q3 => ⟨by decide, ⟨_, rfl⟩, (c_placeOf hM hnS h1 k).mono ?_⟩⟩, fun q2 => ?_⟩
      · exact c51 d _ _ false (by rw [q3]; rfl)
      · obtain ⟨l, hl4, el⟩ := rnH_pl h hi q2
        rintro x M' ⟨rfl, rfl⟩
        have el' : plF (fr_ (σ (m + 4)) 4) (fr_ (σ (m + 2)) 24) nS k = nI l := el
        have hou : ouF (r_sc σ m nS) (r_pl σ m nS) (r_in σ m) k = decide (σ (m + 2) (8 + l) = 0) := by
          unfold ouF
          rw [el, nI_clamp (by omega)]
          simp only [q2, decide_false, Bool.not_false, Bool.true_and]
          rfl
        have q3' : rn = true := by simpa using q3
        rw [el']
        simp only [fi_const, fi_iload, fi_aload, fi_istore, fi_astore, fi_iinc, fi_bin, fi_div, fi_un, fi_dup, fi_dup2, fi_pop, fi_if, fi_cmp, fi_getf, fi_putf, fi_putr, fi_ald, fi_ast, fi_alen, fi_iret, fi_zret, fi_vret, fi_cut, fi_no, fi_s0, fi_s1, fi_s2, fi_s3, fi_s4, fi_v0, fi_v1, fi_v2, fi_v3, fi_v4, fi_v5, fi_n0, fi_n1, fi_n2, fi_mm, fi_stat, fi_alds, fi_tsw, List.getElem?_cons_zero, List.getElem?_cons_succ, List.set_cons_zero, List.set_cons_succ, List.length_cons, List.length_nil, Option.toList_some, Option.toList_none, List.cons_append, List.nil_append, Value.category, true_and, k_0, k_1, k_2, k_3, k_4, false_implies, true_implies, reduceCtorEq, hM.1, hM.2.2.1, li_8, nI_clamp (show 8 + l < 2 ^ 31 by omega)]
        exact ⟨vp_in_nI (by omega) (by decide), fun w => c51 d _ _ true (by rw [hou, q3']; simp [w]), fun w => c51 d _ _ false (by rw [hou, q3']; simp [w])⟩
      · have hz : r_sc σ m nS k = 0 := Decidable.of_not_not q2
        have hno := (scF_zero nS hnS).mp hz
        have hcs : r_cs σ m nS k = 0 := caF_no hno
        have hre : reR (r_ni σ m nS) (r_cs σ m nS) (r_ti σ m nS c) k = true := by
          unfold reR
          rw [hcs]
          simp
        have hou : ouF (r_sc σ m nS) (r_pl σ m nS) (r_in σ m) k = false := by simp [ouF, hz]
        simp [chF, lfF, hou, hre]
  refine fs_enterC (by decide) (by simp [fs_ok]) (Nat.le_of_ble_eq_true rfl) (fun d => S_X9_shoots_0 ?_)
  show T_X9_shoots_0 g d _ [.ref m, .int q, .int (bI rn), .null, .null, .null] [] _
  simp only [T_X9_shoots_0, fi_const, fi_iload, fi_aload, fi_istore, fi_astore, fi_iinc, fi_bin, fi_div, fi_un, fi_dup, fi_dup2, fi_pop, fi_if, fi_cmp, fi_getf, fi_putf, fi_putr, fi_ald, fi_ast, fi_alen, fi_iret, fi_zret, fi_vret, fi_cut, fi_no, fi_s0, fi_s1, fi_s2, fi_s3, fi_s4, fi_v0, fi_v1, fi_v2, fi_v3, fi_v4, fi_v5, fi_n0, fi_n1, fi_n2, fi_mm, fi_stat, fi_alds, fi_tsw, List.getElem?_cons_zero, List.getElem?_cons_succ, List.set_cons_zero, List.set_cons_succ, List.length_cons, List.length_nil, Option.toList_some, Option.toList_none, List.cons_append, List.nil_append, Value.category, true_and, k_0, k_1, k_2, k_3, k_4, false_implies, true_implies, reduceCtorEq]
  exact loop d i 0 (by omega)
/-- only these changed -/
def rnS (σ σ' : Nat → Nat → Int32) (m : Nat) : Prop := ∀ a b, ¬ (a = m ∧ (b = 26 ∨ b = 27)) → ¬ a = m + 9 → σ' a b = σ a b
theorem rnS.cell {σ σ' : Nat → Nat → Int32} {m a : Nat} (h : rnS σ σ' m) (ha : a ≠ m) (ha2 : a ≠ m + 9) : σ' a = σ a := by
  funext b
  exact h a b (fun z => ha z.1) ha2
theorem rnS.u26 {σ σ' : Nat → Nat → Int32} {m : Nat} {x : Int32} (h : rnS σ σ' m) : rnS σ (fs_u σ' m 26 x) m := by
  intro a b h1 h2
  simp only [fs_u]
  rw [if_neg (fun z => h1 ⟨z.1, Or.inl z.2⟩)]
  exact h a b h1 h2
theorem rnS.u27 {σ σ' : Nat → Nat → Int32} {m : Nat} {x : Int32} (h : rnS σ σ' m) : rnS σ (fs_u σ' m 27 x) m := by
  intro a b h1 h2
  simp only [fs_u]
  rw [if_neg (fun z => h1 ⟨z.1, Or.inr z.2⟩)]
  exact h a b h1 h2
theorem rnS.u9 {σ σ' : Nat → Nat → Int32} {m c : Nat} {x : Int32} (h : rnS σ σ' m) : rnS σ (fs_u σ' (m + 9) c x) m := by
  intro a b h1 h2
  simp only [fs_u]
  rw [if_neg (fun z => h2 z.1)]
  exact h a b h1 h2
theorem tiC_congr {ni cs sh sh' : Nat → Int32} {c : Nat} (h : ∀ j, j < c → sh j = sh' j) : tiC ni cs sh c = tiC ni cs sh' c := by
  unfold tiC
  split
  · rfl
  · rw [h (c - 1) (by omega)]
theorem rnH.mv {σ0 : Nat → Nat → Int32} {c' : Nat} (h : rnH σ0 m nS c) (hs : rnS σ0 σ m) (h64 : c' ≤ 64) (h26 : σ m 26 = nI c') (hsh : ∀ j, j < c' → σ (m + 9) j = -1 ∨ ∃ e, e < 12 ∧ σ (m + 9) j = nI e) : rnH σ m nS c' := by
  obtain ⟨h1, h2, h3, h4, h5, h6, -⟩ := h
  have f2 : σ (m + 2) = σ0 (m + 2) := hs.cell (by omega) (by omega)
  have f4 : σ (m + 4) = σ0 (m + 4) := hs.cell (by omega) (by omega)
  have f8 : σ (m + 8) = σ0 (m + 8) := hs.cell (by omega) (by omega)
  refine ⟨by rw [f2]; exact h1, fun e he => ?_, by rw [f2]; exact h3, by rw [f2]; exact h4, by rw [f2, f4]; exact h5, by rw [f2, f4]; exact h6, h64, h26, hsh⟩
  rw [f2, f4, f8]; exact h2 e he
theorem l_rains (hM : shM S m) (hnS : nS ≤ 14) (rain : Int32) (σ0 : Nat → Nat → Int32) (h0 : rnH σ0 m nS 0) : ∀ n c σ sh q j3, c + n = 36 → rnS σ0 σ m → σ m 26 = nI c → d12 q → pot c q (tiC (r_ni σ0 m nS) (r_cs σ0 m nS) sh c) → (∀ j, j < c → σ (m + 9) j = sh j) → (∀ j, j < c → sh j = -1 ∨ ∃ e, e < 12 ∧ sh j = nI e) → fs_R g m_X9_rains d (0, 0) 23 [.ref m, .int rain, .int q, j3] [] ((S, fr), σ, τ) (fun x M' => x = none ∧ ∃ σ', M' = ((S, fr), σ', τ) ∧ rnS σ0 σ' m ∧ σ' m 26 = nI (rnG (r_sc σ0 m nS) (r_pl σ0 m nS) (r_ni σ0 m nS) (r_cs σ0 m nS) (r_in σ0 m) rain n c q (tiC (r_ni σ0 m nS) (r_cs σ0 m nS) sh c) (σ m 27) sh).1 ∧ σ' m 27 = (rnG (r_sc σ0 m nS) (r_pl σ0 m nS) (r_ni σ0 m nS) (r_cs σ0 m nS) (r_in σ0 m) rain n c q (tiC (r_ni σ0 m nS) (r_cs σ0 m nS) sh c) (σ m 27) sh).2.1 ∧ ∀ j, j < (rnG (r_sc σ0 m nS) (r_pl σ0 m nS) (r_ni σ0 m nS) (r_cs σ0 m nS) (r_in σ0 m) rain n c q (tiC (r_ni σ0 m nS) (r_cs σ0 m nS) sh c) (σ m 27) sh).1 → σ' (m + 9) j = (rnG (r_sc σ0 m nS) (r_pl σ0 m nS) (r_ni σ0 m nS) (r_cs σ0 m nS) (r_in σ0 m) rain n c q (tiC (r_ni σ0 m nS) (r_cs σ0 m nS) sh c) (σ m 27) sh).2.2 j)
  | n, c, σ, sh, q, j3, hcn, hs, h26, h12, hp, hsh, hso => by
    have f2 : σ (m + 2) = σ0 (m + 2) := hs.cell (by omega) (by omega)
    have f4 : σ (m + 4) = σ0 (m + 4) := hs.cell (by omega) (by omega)
    have hH : rnH σ m nS c := h0.mv hs (by omega) h26 (fun j hj => by rw [hsh j hj]; exact hso j hj)
    have es : r_sc σ m nS = r_sc σ0 m nS := by
      funext e
      show scF (fr_ (σ (m + 4)) 4) e nS = scF (fr_ (σ0 (m + 4)) 4) e nS
      rw [f4]
    have ep : r_pl σ m nS = r_pl σ0 m nS := by
      show plF (fr_ (σ (m + 4)) 4) (fr_ (σ (m + 2)) 24) nS = plF (fr_ (σ0 (m + 4)) 4) (fr_ (σ0 (m + 2)) 24) nS
      rw [f2, f4]
    have en : r_ni σ m nS = r_ni σ0 m nS := by
      show pnF (fr_ (σ (m + 4)) 4) (fr_ (σ (m + 2)) 52) nS = pnF (fr_ (σ0 (m + 4)) 4) (fr_ (σ0 (m + 2)) 52) nS
      rw [f2, f4]
    have ec : r_cs σ m nS = r_cs σ0 m nS := by
      funext e
      show caF (fr_ (σ (m + 4)) 4) (fr_ (σ (m + 2)) 66) e nS = caF (fr_ (σ0 (m + 4)) 4) (fr_ (σ0 (m + 2)) 66) e nS
      rw [f2, f4]
    have ei : r_in σ m = r_in σ0 m := by
      show fr_ (σ (m + 2)) 8 = fr_ (σ0 (m + 2)) 8
      rw [f2]
    have eti : r_ti σ m nS c = tiC (r_ni σ0 m nS) (r_cs σ0 m nS) sh c := by
      show tiC (r_ni σ m nS) (r_cs σ m nS) (σ (m + 9)) c = _
      rw [tiC_congr hsh, en, ec]
    refine S_X9_rains_23 ?_
    simp only [T_X9_rains_23, fi_const, fi_iload, fi_aload, fi_istore, fi_astore, fi_iinc, fi_bin, fi_div, fi_un, fi_dup, fi_dup2, fi_pop, fi_if, fi_cmp, fi_getf, fi_putf, fi_putr, fi_ald, fi_ast, fi_alen, fi_iret, fi_zret, fi_vret, fi_cut, fi_no, fi_s0, fi_s1, fi_s2, fi_s3, fi_s4, fi_v0, fi_v1, fi_v2, fi_v3, fi_v4, fi_v5, fi_n0, fi_n1, fi_n2, fi_mm, fi_stat, fi_alds, fi_tsw, List.getElem?_cons_zero, List.getElem?_cons_succ, List.set_cons_zero, List.set_cons_succ, List.length_cons, List.length_nil, Option.toList_some, Option.toList_none, List.cons_append, List.nil_append, Value.category, true_and, k_0, k_1, k_2, k_3, k_4, false_implies, true_implies, reduceCtorEq, hM.1, h26]
    refine ⟨fun w => ?_, fun w => ?_⟩
    · refine ⟨σ, rfl, hs, ?_⟩
      cases n with
      | zero => exact ⟨h26, rfl, hsh⟩
      | succ n => simp only [rnG, w, if_true]; exact ⟨h26, trivial, hsh⟩
    · obtain ⟨hc36, hpot⟩ := pot_step (sc := r_sc σ0 m nS) (lo := r_pl σ0 m nS) (ni := r_ni σ0 m nS) (cs := r_cs σ0 m nS) (inn := r_in σ0 m) (rain := rain) h12 w hp
      obtain ⟨n', rfl⟩ : ∃ n', n = n' + 1 := ⟨n - 1, by omega⟩
      have hi := fiN_lt h12 w
      have hb : bt q (fiN (bt q) 12 0) = true := (fiN_spec (f := bt q) 12 0).2.2.1 (by omega)
      have c55 : ∀ rn : Bool, rn = raB rain c → fs_R g m_X9_rains d (0, 0) 55 [.ref m, .int rain, .int q, j3] [.int (bI rn), .int q, .ref m] ((S, fr), σ, τ) (fun x M' => x = none ∧ ∃ σ', M' = ((S, fr), σ', τ) ∧ rnS σ0 σ' m ∧ σ' m 26 = nI (rnG (r_sc σ0 m nS) (r_pl σ0 m nS) (r_ni σ0 m nS) (r_cs σ0 m nS) (r_in σ0 m) rain (n' + 1) c q (tiC (r_ni σ0 m nS) (r_cs σ0 m nS) sh c) (σ m 27) sh).1 ∧ σ' m 27 = (rnG (r_sc σ0 m nS) (r_pl σ0 m nS) (r_ni σ0 m nS) (r_cs σ0 m nS) (r_in σ0 m) rain (n' + 1) c q (tiC (r_ni σ0 m nS) (r_cs σ0 m nS) sh c) (σ m 27) sh).2.1 ∧ ∀ j, j < (rnG (r_sc σ0 m nS) (r_pl σ0 m nS) (r_ni σ0 m nS) (r_cs σ0 m nS) (r_in σ0 m) rain (n' + 1) c q (tiC (r_ni σ0 m nS) (r_cs σ0 m nS) sh c) (σ m 27) sh).1 → σ' (m + 9) j = (rnG (r_sc σ0 m nS) (r_pl σ0 m nS) (r_ni σ0 m nS) (r_cs σ0 m nS) (r_in σ0 m) rain (n' + 1) c q (tiC (r_ni σ0 m nS) (r_cs σ0 m nS) sh c) (σ m 27) sh).2.2 j) := by
        rintro rn rfl
        simp only [rnG, if_neg w]
        refine S_X9_rains_55 ?_
        simp only [T_X9_rains_55, fi_const, fi_iload, fi_aload, fi_istore, fi_astore, fi_iinc, fi_bin, fi_div, fi_un, fi_dup, fi_dup2, fi_pop, fi_if, fi_cmp, fi_getf, fi_putf, fi_putr, fi_ald, fi_ast, fi_alen, fi_iret, fi_zret, fi_vret, fi_cut, fi_no, fi_s0, fi_s1, fi_s2, fi_s3, fi_s4, fi_v0, fi_v1, fi_v2, fi_v3, fi_v4, fi_v5, fi_n0, fi_n1, fi_n2, fi_mm, fi_stat, fi_alds, fi_tsw, List.getElem?_cons_zero, List.getElem?_cons_succ, List.set_cons_zero, List.set_cons_succ, List.length_cons, List.length_nil, Option.toList_some, Option.toList_none, List.cons_append, List.nil_append, Value.category, true_and, k_0, k_1, k_2, k_3, k_4, false_implies, true_implies, reduceCtorEq]
        refine ⟨by decide, ⟨_, hM.1⟩, (c_shoots hM hnS hH h12 w (raB rain c)).mono ?_⟩
        rintro x M' ⟨rfl, rfl⟩
        rw [eti, es, ep, en, ec, ei]
        generalize hti : tiC (r_ni σ0 m nS) (r_cs σ0 m nS) sh c = ti at hpot ⊢
        have hcs := chF_spec (sc := r_sc σ0 m nS) (lo := r_pl σ0 m nS) (ni := r_ni σ0 m nS) (cs := r_cs σ0 m nS) (inn := r_in σ0 m) (ti := ti) (rn := raB rain c) hi hb
        generalize hch : chF (r_sc σ0 m nS) (r_pl σ0 m nS) (r_ni σ0 m nS) (r_cs σ0 m nS) (r_in σ0 m) q ti (raB rain c) (fiN (bt q) 12 0) = x at hpot hcs ⊢
        generalize hlf : lfF (r_sc σ0 m nS) (r_pl σ0 m nS) (r_ni σ0 m nS) (r_cs σ0 m nS) (r_in σ0 m) q ti (raB rain c) (fiN (bt q) 12 0) = lf
        generalize hσ1 : (if lf = true then fs_u σ m 27 (σ m 27 + 1) else σ) = σ1
        have hs1 : rnS σ0 σ1 m := by
          rw [← hσ1]
          split
          · exact hs.u27
          · exact hs
        have v26 : σ1 m 26 = nI c := by rw [← hσ1]; split <;> simp [fs_u, h26]
        have v27 : σ1 m 27 = if lf = true then σ m 27 + 1 else σ m 27 := by rw [← hσ1]; split <;> simp [fs_u]
        have vs : ∀ j, σ1 (m + 9) j = σ (m + 9) j := by intro j; rw [← hσ1]; split <;> simp [fs_u]
        have hic : vp_in (nI c) 64 := vp_in_nI (by omega) (by decide)
        have c74 : ∀ y : Int32, q &&& y = qxF q x → fs_R g m_X9_rains d (0, 0) 74 [.ref m, .int rain, .int q, .int x] [.int y, .int q] ((S, fr), σ1, τ) (fun z M' => z = none ∧ ∃ σ', M' = ((S, fr), σ', τ) ∧ rnS σ0 σ' m ∧ σ' m 26 = nI (rnG (r_sc σ0 m nS) (r_pl σ0 m nS) (r_ni σ0 m nS) (r_cs σ0 m nS) (r_in σ0 m) rain n' (c + 1) (qxF q x) (tiF (r_ni σ0 m nS) (r_cs σ0 m nS) x) (if lf = true then σ m 27 + 1 else σ m 27) (upd sh c x)).1 ∧ σ' m 27 = (rnG (r_sc σ0 m nS) (r_pl σ0 m nS) (r_ni σ0 m nS) (r_cs σ0 m nS) (r_in σ0 m) rain n' (c + 1) (qxF q x) (tiF (r_ni σ0 m nS) (r_cs σ0 m nS) x) (if lf = true then σ m 27 + 1 else σ m 27) (upd sh c x)).2.1 ∧ ∀ j, j < (rnG (r_sc σ0 m nS) (r_pl σ0 m nS) (r_ni σ0 m nS) (r_cs σ0 m nS) (r_in σ0 m) rain n' (c + 1) (qxF q x) (tiF (r_ni σ0 m nS) (r_cs σ0 m nS) x) (if lf = true then σ m 27 + 1 else σ m 27) (upd sh c x)).1 → σ' (m + 9) j = (rnG (r_sc σ0 m nS) (r_pl σ0 m nS) (r_ni σ0 m nS) (r_cs σ0 m nS) (r_in σ0 m) rain n' (c + 1) (qxF q x) (tiF (r_ni σ0 m nS) (r_cs σ0 m nS) x) (if lf = true then σ m 27 + 1 else σ m 27) (upd sh c x)).2.2 j) := by
          intro y hy
          refine S_X9_rains_74 ?_
          simp only [T_X9_rains_74, fi_const, fi_iload, fi_aload, fi_istore, fi_astore, fi_iinc, fi_bin, fi_div, fi_un, fi_dup, fi_dup2, fi_pop, fi_if, fi_cmp, fi_getf, fi_putf, fi_putr, fi_ald, fi_ast, fi_alen, fi_iret, fi_zret, fi_vret, fi_cut, fi_no, fi_s0, fi_s1, fi_s2, fi_s3, fi_s4, fi_v0, fi_v1, fi_v2, fi_v3, fi_v4, fi_v5, fi_n0, fi_n1, fi_n2, fi_mm, fi_stat, fi_alds, fi_tsw, List.getElem?_cons_zero, List.getElem?_cons_succ, List.set_cons_zero, List.set_cons_succ, List.length_cons, List.length_nil, Option.toList_some, Option.toList_none, List.cons_append, List.nil_append, Value.category, true_and, k_0, k_1, k_2, k_3, k_4, false_implies, true_implies, reduceCtorEq, hM.1, hM.2.2.2.2.2.2.2.2.2.1, v26, nI_clamp (show c < 2 ^ 31 by omega), hic, nar_int, hy]
          have e26 : fs_u σ1 (m + 9) c x m 26 = nI c := by simp [fs_u, v26]
          rw [e26, nI_1]
          have etc : tiC (r_ni σ0 m nS) (r_cs σ0 m nS) (upd sh c x) (c + 1) = tiF (r_ni σ0 m nS) (r_cs σ0 m nS) x := by simp [tiC, upd]
          have := l_rains hM hnS rain σ0 h0 n' (c + 1) (fs_u (fs_u σ1 (m + 9) c x) m 26 (nI (c + 1))) (upd sh c x) (qxF q x) (.int x) (by omega) hs1.u9.u26 (by simp [fs_u]) (qx_d12 h12 x) (by rw [etc]; exact hpot) (fun j hj => by
            simp only [fs_u, upd]
            by_cases z : j = c
            · simp [z]
            · simp [z, vs j, hsh j (by omega)]) (fun j hj => by
            simp only [upd]
            by_cases z : j = c
            · rw [if_pos z]; exact hcs.imp id (fun ⟨e, he, h1, _⟩ => ⟨e, he, h1⟩)
            · rw [if_neg z]; exact hso j (by omega))
          rw [etc, show fs_u (fs_u σ1 (m + 9) c x) m 26 (nI (c + 1)) m 27 = (if lf = true then σ m 27 + 1 else σ m 27) by simp [fs_u, v27]] at this
          exact this
        simp only [fi_const, fi_iload, fi_aload, fi_istore, fi_astore, fi_iinc, fi_bin, fi_div, fi_un, fi_dup, fi_dup2, fi_pop, fi_if, fi_cmp, fi_getf, fi_putf, fi_putr, fi_ald, fi_ast, fi_alen, fi_iret, fi_zret, fi_vret, fi_cut, fi_no, fi_s0, fi_s1, fi_s2, fi_s3, fi_s4, fi_v0, fi_v1, fi_v2, fi_v3, fi_v4, fi_v5, fi_n0, fi_n1, fi_n2, fi_mm, fi_stat, fi_alds, fi_tsw, List.getElem?_cons_zero, List.getElem?_cons_succ, List.set_cons_zero, List.set_cons_succ, List.length_cons, List.length_nil, Option.toList_some, Option.toList_none, List.cons_append, List.nil_append, Value.category, true_and, k_0, k_1, k_2, k_3, k_4, false_implies, true_implies, reduceCtorEq]
        exact ⟨fun z => c74 q (by simp [qxF, z]), fun z => c74 _ (by simp [qxF, z])⟩
      refine pk_le 12 c (fun z => c55 false (by simp [raB, show ¬ c < 12 by omega])) (fun z => ?_)
      rw [bt_has1 (show c < 32 by omega)]
      exact ⟨fun y => c55 true (by simp [raB, z, y]), fun y => c55 false (by simp [raB, y])⟩
end PR4
