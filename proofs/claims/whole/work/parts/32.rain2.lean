/-! ===== RainRun ===== -/
def shR (S : List fs_Sh) (r t : Nat) : Prop := S[r]? = some (.inr (5, [none, none, some (some t), some (some (r + 1)), none, none])) ∧ S[r + 1]? = some (.inl (.int, 36))
section PR
variable {g : fs_G} {d : Nat} {S : List fs_Sh} {fr : Bool} {σ : Nat → Nat → Int32} {τ : Nat → Nat → Int64} {p t r : Nat}
theorem c_isRestedR (hR : shR S r t) (hD : shD S t p) {k : Nat} (hk : k < 12) : fs_Ct g m_X5_isRested [.ref r, .int (nI k)] ((S, fr), σ, τ) (fun x M' => x = some (.int (bI (reR (σ (t + 3)) (σ (t + 5)) (σ r 5) k))) ∧ ((S, fr), σ, τ) = M') := by
  refine fs_enterC (by decide) (by simp [fs_ok]) (Nat.le_of_ble_eq_true rfl) (fun d => S_X5_isRested_0 ?_)
  show T_X5_isRested_0 g d _ [.ref r, .int (nI k)] [] _
  simp only [T_X5_isRested_0, fi_const, fi_iload, fi_aload, fi_istore, fi_astore, fi_iinc, fi_bin, fi_div, fi_un, fi_dup, fi_dup2, fi_pop, fi_if, fi_cmp, fi_getf, fi_putf, fi_putr, fi_ald, fi_ast, fi_alen, fi_iret, fi_zret, fi_vret, fi_cut, fi_no, fi_s0, fi_s1, fi_s2, fi_s3, fi_s4, fi_v0, fi_v1, fi_v2, fi_v3, fi_v4, fi_v5, fi_n0, fi_n1, fi_n2, fi_mm, fi_stat, fi_alds, fi_tsw, List.getElem?_cons_zero, List.getElem?_cons_succ, List.set_cons_zero, List.set_cons_succ, List.length_cons, List.length_nil, Option.toList_some, Option.toList_none, List.cons_append, List.nil_append, Value.category, true_and, k_0, k_1, k_2, k_3, k_4, false_implies, true_implies, reduceCtorEq]
  have hi : vp_in (nI k) 12 := vp_in_nI hk (by decide)
  simp only [hR.1, hD.1, hD.2.2.2.1, hD.2.2.2.2.2, fi_const, fi_iload, fi_aload, fi_istore, fi_astore, fi_iinc, fi_bin, fi_div, fi_un, fi_dup, fi_dup2, fi_pop, fi_if, fi_cmp, fi_getf, fi_putf, fi_putr, fi_ald, fi_ast, fi_alen, fi_iret, fi_zret, fi_vret, fi_cut, fi_no, fi_s0, fi_s1, fi_s2, fi_s3, fi_s4, fi_v0, fi_v1, fi_v2, fi_v3, fi_v4, fi_v5, fi_n0, fi_n1, fi_n2, fi_mm, fi_stat, fi_alds, fi_tsw, List.getElem?_cons_zero, List.getElem?_cons_succ, List.set_cons_zero, List.set_cons_succ, List.length_cons, List.length_nil, Option.toList_some, Option.toList_none, List.cons_append, List.nil_append, Value.category, true_and, k_0, k_1, k_2, k_3, k_4, false_implies, true_implies, reduceCtorEq, nI_clamp (show k < 2 ^ 31 by omega), hi, reR]
  by_cases e1 : σ (t + 3) k = 0 <;> by_cases e2 : σ (t + 5) k &&& σ r 5 = 0 <;> simp [e1, e2, bI]
theorem l_coverSet (hR : shR S r t) (hD : shD S t p) (hP : shP S p) (hl : locOK (σ (t + 1)) (σ (t + 2))) (j1 : Value) : ∀ n k, k + n = 12 → fs_R g m_X5_coverSet d (0, 0) 4 [.ref r, j1, .int (nI k)] [] ((S, fr), σ, τ) (fun x M' => x = some (.int (cvF (σ (t + 1)) (σ (t + 2)) (σ (t + 3)) (σ (t + 5)) (σ (p + 3)) (σ r 4) (σ r 5) n k)) ∧ ((S, fr), σ, τ) = M')
  | 0, k, h => by
    refine S_X5_coverSet_4 ?_
    simp only [T_X5_coverSet_4, fi_const, fi_iload, fi_aload, fi_istore, fi_astore, fi_iinc, fi_bin, fi_div, fi_un, fi_dup, fi_dup2, fi_pop, fi_if, fi_cmp, fi_getf, fi_putf, fi_putr, fi_ald, fi_ast, fi_alen, fi_iret, fi_zret, fi_vret, fi_cut, fi_no, fi_s0, fi_s1, fi_s2, fi_s3, fi_s4, fi_v0, fi_v1, fi_v2, fi_v3, fi_v4, fi_v5, fi_n0, fi_n1, fi_n2, fi_mm, fi_stat, fi_alds, fi_tsw, List.getElem?_cons_zero, List.getElem?_cons_succ, List.set_cons_zero, List.set_cons_succ, List.length_cons, List.length_nil, Option.toList_some, Option.toList_none, List.cons_append, List.nil_append, Value.category, true_and, k_0, k_1, k_2, k_3, k_4, false_implies, true_implies, reduceCtorEq]
    refine pk_le 12 k (fun _ => ?_) (fun h2 => by omega)
    simp [cvF]
  | n + 1, k, h => by
    have ih := l_coverSet hR hD hP hl j1 n (k + 1) (by omega)
    refine S_X5_coverSet_4 ?_
    simp only [T_X5_coverSet_4, fi_const, fi_iload, fi_aload, fi_istore, fi_astore, fi_iinc, fi_bin, fi_div, fi_un, fi_dup, fi_dup2, fi_pop, fi_if, fi_cmp, fi_getf, fi_putf, fi_putr, fi_ald, fi_ast, fi_alen, fi_iret, fi_zret, fi_vret, fi_cut, fi_no, fi_s0, fi_s1, fi_s2, fi_s3, fi_s4, fi_v0, fi_v1, fi_v2, fi_v3, fi_v4, fi_v5, fi_n0, fi_n1, fi_n2, fi_mm, fi_stat, fi_alds, fi_tsw, List.getElem?_cons_zero, List.getElem?_cons_succ, List.set_cons_zero, List.set_cons_succ, List.length_cons, List.length_nil, Option.toList_some, Option.toList_none, List.cons_append, List.nil_append, Value.category, true_and, k_0, k_1, k_2, k_3, k_4, false_implies, true_implies, reduceCtorEq, hR.1, nI_1]
    refine pk_le 12 k (fun h2 => by omega) (fun _ => ⟨by decide, (c_has _ (show k < 32 by omega)).mono ?_⟩)
    rintro x M' ⟨rfl, rfl⟩
    simp only [fi_const, fi_iload, fi_aload, fi_istore, fi_astore, fi_iinc, fi_bin, fi_div, fi_un, fi_dup, fi_dup2, fi_pop, fi_if, fi_cmp, fi_getf, fi_putf, fi_putr, fi_ald, fi_ast, fi_alen, fi_iret, fi_zret, fi_vret, fi_cut, fi_no, fi_s0, fi_s1, fi_s2, fi_s3, fi_s4, fi_v0, fi_v1, fi_v2, fi_v3, fi_v4, fi_v5, fi_n0, fi_n1, fi_n2, fi_mm, fi_stat, fi_alds, fi_tsw, List.getElem?_cons_zero, List.getElem?_cons_succ, List.set_cons_zero, List.set_cons_succ, List.length_cons, List.length_nil, Option.toList_some, Option.toList_none, List.cons_append, List.nil_append, Value.category, true_and, k_0, k_1, k_2, k_3, k_4, false_implies, true_implies, reduceCtorEq, bI_eq0, hR.1, nI_1]
    refine ⟨fun q => ?_, fun q => ⟨by decide, ⟨_, hD.1⟩, (c_isFree hD (by omega)).mono ?_⟩⟩
    · rw [cvF, if_neg (by simp [q])]; exact ih
    · rintro x M' ⟨rfl, rfl⟩
      simp only [fi_const, fi_iload, fi_aload, fi_istore, fi_astore, fi_iinc, fi_bin, fi_div, fi_un, fi_dup, fi_dup2, fi_pop, fi_if, fi_cmp, fi_getf, fi_putf, fi_putr, fi_ald, fi_ast, fi_alen, fi_iret, fi_zret, fi_vret, fi_cut, fi_no, fi_s0, fi_s1, fi_s2, fi_s3, fi_s4, fi_v0, fi_v1, fi_v2, fi_v3, fi_v4, fi_v5, fi_n0, fi_n1, fi_n2, fi_mm, fi_stat, fi_alds, fi_tsw, List.getElem?_cons_zero, List.getElem?_cons_succ, List.set_cons_zero, List.set_cons_succ, List.length_cons, List.length_nil, Option.toList_some, Option.toList_none, List.cons_append, List.nil_append, Value.category, true_and, k_0, k_1, k_2, k_3, k_4, false_implies, true_implies, reduceCtorEq, bI_eq0, decide_eq_false_iff_not, hR.1, nI_1]
      refine ⟨fun q2 => ⟨by decide, ⟨_, hD.1⟩, (c_isOutdoors hD hP (by omega) hl).mono ?_⟩, fun q2 => ?_⟩
      · rintro x M' ⟨rfl, rfl⟩
        simp only [fi_const, fi_iload, fi_aload, fi_istore, fi_astore, fi_iinc, fi_bin, fi_div, fi_un, fi_dup, fi_dup2, fi_pop, fi_if, fi_cmp, fi_getf, fi_putf, fi_putr, fi_ald, fi_ast, fi_alen, fi_iret, fi_zret, fi_vret, fi_cut, fi_no, fi_s0, fi_s1, fi_s2, fi_s3, fi_s4, fi_v0, fi_v1, fi_v2, fi_v3, fi_v4, fi_v5, fi_n0, fi_n1, fi_n2, fi_mm, fi_stat, fi_alds, fi_tsw, List.getElem?_cons_zero, List.getElem?_cons_succ, List.set_cons_zero, List.set_cons_succ, List.length_cons, List.length_nil, Option.toList_some, Option.toList_none, List.cons_append, List.nil_append, Value.category, true_and, k_0, k_1, k_2, k_3, k_4, false_implies, true_implies, reduceCtorEq, bI_eq0]
        refine ⟨fun q3 => ⟨by decide, ⟨_, hR.1⟩, (c_isRestedR hR hD (by omega)).mono ?_⟩, fun q3 => ?_⟩
        · rintro x M' ⟨rfl, rfl⟩
          simp only [fi_const, fi_iload, fi_aload, fi_istore, fi_astore, fi_iinc, fi_bin, fi_div, fi_un, fi_dup, fi_dup2, fi_pop, fi_if, fi_cmp, fi_getf, fi_putf, fi_putr, fi_ald, fi_ast, fi_alen, fi_iret, fi_zret, fi_vret, fi_cut, fi_no, fi_s0, fi_s1, fi_s2, fi_s3, fi_s4, fi_v0, fi_v1, fi_v2, fi_v3, fi_v4, fi_v5, fi_n0, fi_n1, fi_n2, fi_mm, fi_stat, fi_alds, fi_tsw, List.getElem?_cons_zero, List.getElem?_cons_succ, List.set_cons_zero, List.set_cons_succ, List.length_cons, List.length_nil, Option.toList_some, Option.toList_none, List.cons_append, List.nil_append, Value.category, true_and, k_0, k_1, k_2, k_3, k_4, false_implies, true_implies, reduceCtorEq, bI_eq0, nI_1]
          have q3' : ouF (σ (t + 1)) (σ (t + 2)) (σ (p + 3)) k = false := q3
          refine ⟨fun q4 => ?_, fun q4 => ?_⟩
          · rw [cvF, if_neg (by simp [q4])]; exact ih
          · rw [cvF, if_pos (by simp [q2, q3', (by simpa using q : bt (σ r 4) k = true), (by simpa using q4 : reR (σ (t + 3)) (σ (t + 5)) (σ r 5) k = true)])]
            exact ⟨rfl, trivial⟩
        · have q3' : ¬ ouF (σ (t + 1)) (σ (t + 2)) (σ (p + 3)) k = false := q3
          rw [cvF, if_neg (by simp at q3'; simp [q3'])]; exact ih
      · rw [cvF, if_neg (by simp [Decidable.of_not_not q2])]; exact ih
theorem c_coverSet (hR : shR S r t) (hD : shD S t p) (hP : shP S p) (hl : locOK (σ (t + 1)) (σ (t + 2))) {i : Nat} (hi : i < 12) : fs_Ct g m_X5_coverSet [.ref r, .int (nI i)] ((S, fr), σ, τ) (fun x M' => x = some (.int (cvF (σ (t + 1)) (σ (t + 2)) (σ (t + 3)) (σ (t + 5)) (σ (p + 3)) (σ r 4) (σ r 5) (11 - i) (i + 1))) ∧ ((S, fr), σ, τ) = M') := by
  refine fs_enterC (by decide) (by simp [fs_ok]) (Nat.le_of_ble_eq_true rfl) (fun d => S_X5_coverSet_0 ?_)
  show T_X5_coverSet_0 g d _ [.ref r, .int (nI i), .null] [] _
  simp only [T_X5_coverSet_0, fi_const, fi_iload, fi_aload, fi_istore, fi_astore, fi_iinc, fi_bin, fi_div, fi_un, fi_dup, fi_dup2, fi_pop, fi_if, fi_cmp, fi_getf, fi_putf, fi_putr, fi_ald, fi_ast, fi_alen, fi_iret, fi_zret, fi_vret, fi_cut, fi_no, fi_s0, fi_s1, fi_s2, fi_s3, fi_s4, fi_v0, fi_v1, fi_v2, fi_v3, fi_v4, fi_v5, fi_n0, fi_n1, fi_n2, fi_mm, fi_stat, fi_alds, fi_tsw, List.getElem?_cons_zero, List.getElem?_cons_succ, List.set_cons_zero, List.set_cons_succ, List.length_cons, List.length_nil, Option.toList_some, Option.toList_none, List.cons_append, List.nil_append, Value.category, true_and, k_0, k_1, k_2, k_3, k_4, false_implies, true_implies, reduceCtorEq]
  rw [nI_1]
  exact l_coverSet hR hD hP hl _ (11 - i) (i + 1) (by omega)
theorem c_chooseDay (hR : shR S r t) (hD : shD S t p) (hP : shP S p) (hl : locOK (σ (t + 1)) (σ (t + 2))) (rn : Bool) (h12 : d12 (σ r 4)) (h0 : ¬ σ r 4 = 0) : fs_Ct g m_X5_chooseDay [.ref r, .int (bI rn)] ((S, fr), σ, τ) (fun x M' => x = some (.int (chF (σ (t + 1)) (σ (t + 2)) (σ (t + 3)) (σ (t + 5)) (σ (p + 3)) (σ r 4) (σ r 5) rn (fiN (bt (σ r 4)) 12 0))) ∧ ((S, fr), (if lfF (σ (t + 1)) (σ (t + 2)) (σ (t + 3)) (σ (t + 5)) (σ (p + 3)) (σ r 4) (σ r 5) rn (fiN (bt (σ r 4)) 12 0) then fs_u σ r 1 (σ r 1 + 1) else σ), τ) = M') := by
  have hi := fiN_lt h12 h0
  generalize hfi : fiN (bt (σ r 4)) 12 0 = i at hi
  have hfst : fstB (bt (σ r 4)) 12 0 = nI i := by rw [fiN_fst, hfi, if_pos (by omega)]
  have c30 : ∀ d (j1 j3 : Value), fs_R g m_X5_chooseDay d (0, 0) 30 [.ref r, j1, .int (nI i), j3] [] ((S, fr), σ, τ) (fun x M' => x = some (.int (if reR (σ (t + 3)) (σ (t + 5)) (σ r 5) i then nI i else -1)) ∧ ((S, fr), σ, τ) = M') := by
    intro d j1 j3
    refine S_X5_chooseDay_30 ?_
    simp only [T_X5_chooseDay_30, fi_const, fi_iload, fi_aload, fi_istore, fi_astore, fi_iinc, fi_bin, fi_div, fi_un, fi_dup, fi_dup2, fi_pop, fi_if, fi_cmp, fi_getf, fi_putf, fi_putr, fi_ald, fi_ast, fi_alen, fi_iret, fi_zret, fi_vret, fi_cut, fi_no, fi_s0, fi_s1, fi_s2, fi_s3, fi_s4, fi_v0, fi_v1, fi_v2, fi_v3, fi_v4, fi_v5, fi_n0, fi_n1, fi_n2, fi_mm, fi_stat, fi_alds, fi_tsw, List.getElem?_cons_zero, List.getElem?_cons_succ, List.set_cons_zero, List.set_cons_succ, List.length_cons, List.length_nil, Option.toList_some, Option.toList_none, List.cons_append, List.nil_append, Value.category, true_and, k_0, k_1, k_2, k_3, k_4, false_implies, true_implies, reduceCtorEq]
    refine ⟨by decide, ⟨_, hR.1⟩, (c_isRestedR hR hD hi).mono ?_⟩
    rintro x M' ⟨rfl, rfl⟩
    simp only [fi_const, fi_iload, fi_aload, fi_istore, fi_astore, fi_iinc, fi_bin, fi_div, fi_un, fi_dup, fi_dup2, fi_pop, fi_if, fi_cmp, fi_getf, fi_putf, fi_putr, fi_ald, fi_ast, fi_alen, fi_iret, fi_zret, fi_vret, fi_cut, fi_no, fi_s0, fi_s1, fi_s2, fi_s3, fi_s4, fi_v0, fi_v1, fi_v2, fi_v3, fi_v4, fi_v5, fi_n0, fi_n1, fi_n2, fi_mm, fi_stat, fi_alds, fi_tsw, List.getElem?_cons_zero, List.getElem?_cons_succ, List.set_cons_zero, List.set_cons_succ, List.length_cons, List.length_nil, Option.toList_some, Option.toList_none, List.cons_append, List.nil_append, Value.category, true_and, k_0, k_1, k_2, k_3, k_4, false_implies, true_implies, reduceCtorEq, bI_eq0]
    exact ⟨fun q => by simp [q], fun q => by simp [q]⟩
  refine fs_enterC (by decide) (by simp [fs_ok]) (Nat.le_of_ble_eq_true rfl) (fun d => S_X5_chooseDay_0 ?_)
  show T_X5_chooseDay_0 g d _ [.ref r, .int (bI rn), .null, .null] [] _
  simp only [T_X5_chooseDay_0, fi_const, fi_iload, fi_aload, fi_istore, fi_astore, fi_iinc, fi_bin, fi_div, fi_un, fi_dup, fi_dup2, fi_pop, fi_if, fi_cmp, fi_getf, fi_putf, fi_putr, fi_ald, fi_ast, fi_alen, fi_iret, fi_zret, fi_vret, fi_cut, fi_no, fi_s0, fi_s1, fi_s2, fi_s3, fi_s4, fi_v0, fi_v1, fi_v2, fi_v3, fi_v4, fi_v5, fi_n0, fi_n1, fi_n2, fi_mm, fi_stat, fi_alds, fi_tsw, List.getElem?_cons_zero, List.getElem?_cons_succ, List.set_cons_zero, List.set_cons_succ, List.length_cons, List.length_nil, Option.toList_some, Option.toList_none, List.cons_append, List.nil_append, Value.category, true_and, k_0, k_1, k_2, k_3, k_4, false_implies, true_implies, reduceCtorEq]
  simp only [hR.1, fi_const, fi_iload, fi_aload, fi_istore, fi_astore, fi_iinc, fi_bin, fi_div, fi_un, fi_dup, fi_dup2, fi_pop, fi_if, fi_cmp, fi_getf, fi_putf, fi_putr, fi_ald, fi_ast, fi_alen, fi_iret, fi_zret, fi_vret, fi_cut, fi_no, fi_s0, fi_s1, fi_s2, fi_s3, fi_s4, fi_v0, fi_v1, fi_v2, fi_v3, fi_v4, fi_v5, fi_n0, fi_n1, fi_n2, fi_mm, fi_stat, fi_alds, fi_tsw, List.getElem?_cons_zero, List.getElem?_cons_succ, List.set_cons_zero, List.set_cons_succ, List.length_cons, List.length_nil, Option.toList_some, Option.toList_none, List.cons_append, List.nil_append, Value.category, true_and, k_0, k_1, k_2, k_3, k_4, false_implies, true_implies, reduceCtorEq]
  refine ⟨by decide, (c_first _).mono ?_⟩
  rintro x M' ⟨rfl, rfl⟩
  rw [hfst]
  simp only [fi_const, fi_iload, fi_aload, fi_istore, fi_astore, fi_iinc, fi_bin, fi_div, fi_un, fi_dup, fi_dup2, fi_pop, fi_if, fi_cmp, fi_getf, fi_putf, fi_putr, fi_ald, fi_ast, fi_alen, fi_iret, fi_zret, fi_vret, fi_cut, fi_no, fi_s0, fi_s1, fi_s2, fi_s3, fi_s4, fi_v0, fi_v1, fi_v2, fi_v3, fi_v4, fi_v5, fi_n0, fi_n1, fi_n2, fi_mm, fi_stat, fi_alds, fi_tsw, List.getElem?_cons_zero, List.getElem?_cons_succ, List.set_cons_zero, List.set_cons_succ, List.length_cons, List.length_nil, Option.toList_some, Option.toList_none, List.cons_append, List.nil_append, Value.category, true_and, k_0, k_1, k_2, k_3, k_4, false_implies, true_implies, reduceCtorEq, m1n hi, bI_eq0, hR.1]
  refine fun _ => ⟨fun q => ?_, fun q => ⟨by decide, ⟨_, hD.1⟩, (c_isOutdoors hD hP hi hl).mono ?_⟩⟩
  · subst q
    simp only [chF, lfF, Bool.false_and, if_neg (show ¬ false = true by decide)]
    exact c30 d _ _
  · have q : rn = true := by simpa using q
    subst q
    rintro x M' ⟨rfl, rfl⟩
    simp only [fi_const, fi_iload, fi_aload, fi_istore, fi_astore, fi_iinc, fi_bin, fi_div, fi_un, fi_dup, fi_dup2, fi_pop, fi_if, fi_cmp, fi_getf, fi_putf, fi_putr, fi_ald, fi_ast, fi_alen, fi_iret, fi_zret, fi_vret, fi_cut, fi_no, fi_s0, fi_s1, fi_s2, fi_s3, fi_s4, fi_v0, fi_v1, fi_v2, fi_v3, fi_v4, fi_v5, fi_n0, fi_n1, fi_n2, fi_mm, fi_stat, fi_alds, fi_tsw, List.getElem?_cons_zero, List.getElem?_cons_succ, List.set_cons_zero, List.set_cons_succ, List.length_cons, List.length_nil, Option.toList_some, Option.toList_none, List.cons_append, List.nil_append, Value.category, true_and, k_0, k_1, k_2, k_3, k_4, false_implies, true_implies, reduceCtorEq, bI_eq0]
    refine ⟨fun q2 => ?_, fun q2 => ⟨by decide, ⟨_, hR.1⟩, (c_coverSet hR hD hP hl hi).mono ?_⟩⟩
    · have q2' : ouF (σ (t + 1)) (σ (t + 2)) (σ (p + 3)) i = false := q2
      simp only [chF, lfF, q2', Bool.and_false, Bool.false_and, if_neg (show ¬ false = true by decide)]
      exact c30 d _ _
    · have q2' : ouF (σ (t + 1)) (σ (t + 2)) (σ (p + 3)) i = true := by
        have : ¬ ouF (σ (t + 1)) (σ (t + 2)) (σ (p + 3)) i = false := q2
        simpa using this
      rintro x M' ⟨rfl, rfl⟩
      simp only [chF, lfF, q2', Bool.and_true, Bool.true_and, if_true]
      simp only [fi_const, fi_iload, fi_aload, fi_istore, fi_astore, fi_iinc, fi_bin, fi_div, fi_un, fi_dup, fi_dup2, fi_pop, fi_if, fi_cmp, fi_getf, fi_putf, fi_putr, fi_ald, fi_ast, fi_alen, fi_iret, fi_zret, fi_vret, fi_cut, fi_no, fi_s0, fi_s1, fi_s2, fi_s3, fi_s4, fi_v0, fi_v1, fi_v2, fi_v3, fi_v4, fi_v5, fi_n0, fi_n1, fi_n2, fi_mm, fi_stat, fi_alds, fi_tsw, List.getElem?_cons_zero, List.getElem?_cons_succ, List.set_cons_zero, List.set_cons_succ, List.length_cons, List.length_nil, Option.toList_some, Option.toList_none, List.cons_append, List.nil_append, Value.category, true_and, k_0, k_1, k_2, k_3, k_4, false_implies, true_implies, reduceCtorEq, hR.1]
      refine ⟨fun q3 => by simp [q3], fun q3 => by simp [q3]⟩
def inR (r : Nat) : Nat → Prop := fun a => a = r ∨ a = r + 1
theorem l_shootAll (hR : shR S r t) (hD : shD S t p) (hP : shP S p) (hrt : t + 6 ≤ r) (hpr : p + 12 ≤ r) (rain : Int32) (σ0 : Nat → Nat → Int32) (hl : locOK (σ0 (t + 1)) (σ0 (t + 2))) (h01 : ∀ e, e < 12 → σ0 (t + 3) e = 0 ∨ σ0 (t + 3) e = 1) : ∀ n c σ sh j2 j3, c + n = 36 → same σ0 σ (inR r) → σ r 0 = nI c → d12 (σ r 4) → pot c (σ r 4) (σ r 5) → (∀ j, j < c → σ (r + 1) j = sh j) → fs_R g m_X5_shootAll d (0, 0) 30 [.ref r, .int rain, j2, j3] [] ((S, fr), σ, τ) (fun x M' => x = none ∧ ∃ σ', M' = ((S, fr), σ', τ) ∧ same σ0 σ' (inR r) ∧ σ' r 0 = nI (rnG (σ0 (t + 1)) (σ0 (t + 2)) (σ0 (t + 3)) (σ0 (t + 5)) (σ0 (p + 3)) rain n c (σ r 4) (σ r 5) (σ r 1) sh).1 ∧ σ' r 1 = (rnG (σ0 (t + 1)) (σ0 (t + 2)) (σ0 (t + 3)) (σ0 (t + 5)) (σ0 (p + 3)) rain n c (σ r 4) (σ r 5) (σ r 1) sh).2.1 ∧ ∀ j, j < (rnG (σ0 (t + 1)) (σ0 (t + 2)) (σ0 (t + 3)) (σ0 (t + 5)) (σ0 (p + 3)) rain n c (σ r 4) (σ r 5) (σ r 1) sh).1 → σ' (r + 1) j = (rnG (σ0 (t + 1)) (σ0 (t + 2)) (σ0 (t + 3)) (σ0 (t + 5)) (σ0 (p + 3)) rain n c (σ r 4) (σ r 5) (σ r 1) sh).2.2 j)
  | n, c, σ, sh, j2, j3, hc, hs, h0, h12, hp, hsh => by
    have ft : ∀ i, i < 6 → σ (t + i) = σ0 (t + i) := fun i hi => hs _ (by unfold inR; omega)
    have fp : σ (p + 3) = σ0 (p + 3) := hs _ (by unfold inR; omega)
    refine S_X5_shootAll_30 ?_
    simp only [T_X5_shootAll_30, fi_const, fi_iload, fi_aload, fi_istore, fi_astore, fi_iinc, fi_bin, fi_div, fi_un, fi_dup, fi_dup2, fi_pop, fi_if, fi_cmp, fi_getf, fi_putf, fi_putr, fi_ald, fi_ast, fi_alen, fi_iret, fi_zret, fi_vret, fi_cut, fi_no, fi_s0, fi_s1, fi_s2, fi_s3, fi_s4, fi_v0, fi_v1, fi_v2, fi_v3, fi_v4, fi_v5, fi_n0, fi_n1, fi_n2, fi_mm, fi_stat, fi_alds, fi_tsw, List.getElem?_cons_zero, List.getElem?_cons_succ, List.set_cons_zero, List.set_cons_succ, List.length_cons, List.length_nil, Option.toList_some, Option.toList_none, List.cons_append, List.nil_append, Value.category, true_and, k_0, k_1, k_2, k_3, k_4, false_implies, true_implies, reduceCtorEq, hR.1, h0]
    refine ⟨fun q => ?_, fun q => ?_⟩
    · refine ⟨σ, rfl, hs, ?_⟩
      cases n with
      | zero => exact ⟨h0, rfl, hsh⟩
      | succ n => simp only [rnG, q, if_true]; exact ⟨h0, trivial, hsh⟩
    · obtain ⟨hc36, hpot⟩ := pot_step (sc := σ0 (t + 1)) (lo := σ0 (t + 2)) (ni := σ0 (t + 3)) (cs := σ0 (t + 5)) (inn := σ0 (p + 3)) (rain := rain) h12 q hp
      obtain ⟨n', rfl⟩ : ∃ n', n = n' + 1 := ⟨n - 1, by omega⟩
      have hi := fiN_lt h12 q
      have hb : bt (σ r 4) (fiN (bt (σ r 4)) 12 0) = true := (fiN_spec (f := bt (σ r 4)) 12 0).2.2.1 (by omega)
      have c71 : ∀ rn : Bool, rn = raB rain c → fs_R g m_X5_shootAll d (0, 0) 71 [.ref r, .int rain, j2, j3] [.int (bI rn)] ((S, fr), σ, τ) (fun x M' => x = none ∧ ∃ σ', M' = ((S, fr), σ', τ) ∧ same σ0 σ' (inR r) ∧ σ' r 0 = nI (rnG (σ0 (t + 1)) (σ0 (t + 2)) (σ0 (t + 3)) (σ0 (t + 5)) (σ0 (p + 3)) rain (n' + 1) c (σ r 4) (σ r 5) (σ r 1) sh).1 ∧ σ' r 1 = (rnG (σ0 (t + 1)) (σ0 (t + 2)) (σ0 (t + 3)) (σ0 (t + 5)) (σ0 (p + 3)) rain (n' + 1) c (σ r 4) (σ r 5) (σ r 1) sh).2.1 ∧ ∀ j, j < (rnG (σ0 (t + 1)) (σ0 (t + 2)) (σ0 (t + 3)) (σ0 (t + 5)) (σ0 (p + 3)) rain (n' + 1) c (σ r 4) (σ r 5) (σ r 1) sh).1 → σ' (r + 1) j = (rnG (σ0 (t + 1)) (σ0 (t + 2)) (σ0 (t + 3)) (σ0 (t + 5)) (σ0 (p + 3)) rain (n' + 1) c (σ r 4) (σ r 5) (σ r 1) sh).2.2 j) := by
        rintro rn rfl
        simp only [rnG, if_neg q]
        have fin : ∀ (σ2 : Nat → Nat → Int32) (x : Int32) (lf : Bool) (j2 j3 : Value), same σ0 σ2 (inR r) → σ2 r 0 = nI (c + 1) → σ2 r 4 = qxF (σ r 4) x → σ2 r 5 = tiF (σ0 (t + 3)) (σ0 (t + 5)) x → σ2 r 1 = (if lf = true then σ r 1 + 1 else σ r 1) → (∀ i, i < c + 1 → σ2 (r + 1) i = upd sh c x i) → pot (c + 1) (qxF (σ r 4) x) (tiF (σ0 (t + 3)) (σ0 (t + 5)) x) → fs_R g m_X5_shootAll d (0, 0) 30 [.ref r, .int rain, j2, j3] [] ((S, fr), σ2, τ) (fun z M' => z = none ∧ ∃ σ', M' = ((S, fr), σ', τ) ∧ same σ0 σ' (inR r) ∧ σ' r 0 = nI (rnG (σ0 (t + 1)) (σ0 (t + 2)) (σ0 (t + 3)) (σ0 (t + 5)) (σ0 (p + 3)) rain n' (c + 1) (qxF (σ r 4) x) (tiF (σ0 (t + 3)) (σ0 (t + 5)) x) (if lf = true then σ r 1 + 1 else σ r 1) (upd sh c x)).1 ∧ σ' r 1 = (rnG (σ0 (t + 1)) (σ0 (t + 2)) (σ0 (t + 3)) (σ0 (t + 5)) (σ0 (p + 3)) rain n' (c + 1) (qxF (σ r 4) x) (tiF (σ0 (t + 3)) (σ0 (t + 5)) x) (if lf = true then σ r 1 + 1 else σ r 1) (upd sh c x)).2.1 ∧ ∀ j, j < (rnG (σ0 (t + 1)) (σ0 (t + 2)) (σ0 (t + 3)) (σ0 (t + 5)) (σ0 (p + 3)) rain n' (c + 1) (qxF (σ r 4) x) (tiF (σ0 (t + 3)) (σ0 (t + 5)) x) (if lf = true then σ r 1 + 1 else σ r 1) (upd sh c x)).1 → σ' (r + 1) j = (rnG (σ0 (t + 1)) (σ0 (t + 2)) (σ0 (t + 3)) (σ0 (t + 5)) (σ0 (p + 3)) rain n' (c + 1) (qxF (σ r 4) x) (tiF (σ0 (t + 3)) (σ0 (t + 5)) x) (if lf = true then σ r 1 + 1 else σ r 1) (upd sh c x)).2.2 j) := by
          intro σ2 x lf j2 j3 b1 b2 b3 b4 b5 b6 b7
          have := l_shootAll hR hD hP hrt hpr rain σ0 hl h01 n' (c + 1) σ2 (upd sh c x) j2 j3 (by omega) b1 b2 (by rw [b3]; exact qx_d12 h12 x) (by rw [b3, b4]; exact b7) b6
          rw [b3, b4, b5] at this
          exact this
        rcases chF_spec (sc := σ0 (t + 1)) (lo := σ0 (t + 2)) (ni := σ0 (t + 3)) (cs := σ0 (t + 5)) (inn := σ0 (p + 3)) (ti := σ r 5) (rn := raB rain c) hi hb with hch | ⟨j, hj, hch, hbj⟩
        all_goals
          refine S_X5_shootAll_71 ?_
          simp only [T_X5_shootAll_71, fi_const, fi_iload, fi_aload, fi_istore, fi_astore, fi_iinc, fi_bin, fi_div, fi_un, fi_dup, fi_dup2, fi_pop, fi_if, fi_cmp, fi_getf, fi_putf, fi_putr, fi_ald, fi_ast, fi_alen, fi_iret, fi_zret, fi_vret, fi_cut, fi_no, fi_s0, fi_s1, fi_s2, fi_s3, fi_s4, fi_v0, fi_v1, fi_v2, fi_v3, fi_v4, fi_v5, fi_n0, fi_n1, fi_n2, fi_mm, fi_stat, fi_alds, fi_tsw, List.getElem?_cons_zero, List.getElem?_cons_succ, List.set_cons_zero, List.set_cons_succ, List.length_cons, List.length_nil, Option.toList_some, Option.toList_none, List.cons_append, List.nil_append, Value.category, true_and, k_0, k_1, k_2, k_3, k_4, false_implies, true_implies, reduceCtorEq, hR.1]
          refine ⟨by decide, ⟨_, rfl⟩, (c_chooseDay hR hD hP (by rw [ft 1 (by decide), ft 2 (by decide)]; exact hl) (raB rain c) h12 q).mono ?_⟩
          rintro x M' ⟨rfl, rfl⟩
          rw [ft 1 (by decide), ft 2 (by decide), ft 3 (by decide), ft 5 (by decide), fp]
          rw [hch] at hpot ⊢
          generalize hlf : lfF (σ0 (t + 1)) (σ0 (t + 2)) (σ0 (t + 3)) (σ0 (t + 5)) (σ0 (p + 3)) (σ r 4) (σ r 5) (raB rain c) (fiN (bt (σ r 4)) 12 0) = lf
          generalize hσ1 : (if lf = true then fs_u σ r 1 (σ r 1 + 1) else σ) = σ1
          have hs1 : same σ0 σ1 (inR r) := by
            rw [← hσ1]
            split
            · exact same_uu hs (Or.inl rfl)
            · exact hs
          have v0 : σ1 r 0 = nI c := by rw [← hσ1]; split <;> simp [fs_u, h0]
          have v1 : σ1 r 1 = if lf = true then σ r 1 + 1 else σ r 1 := by rw [← hσ1]; split <;> simp [fs_u]
          have v4 : σ1 r 4 = σ r 4 := by rw [← hσ1]; split <;> simp [fs_u]
          have v5 : σ1 r 5 = σ r 5 := by rw [← hσ1]; split <;> simp [fs_u]
          have vs : ∀ j, σ1 (r + 1) j = σ (r + 1) j := by intro j; rw [← hσ1]; split <;> simp [fs_u]
          have ft1 : ∀ i, i < 6 → σ1 (t + i) = σ0 (t + i) := fun i hi => hs1 _ (by unfold inR; omega)
          have hic : vp_in (nI c) 36 := vp_in_nI hc36 (by decide)
          have htr : ∀ i, i < 6 → ¬ t + i = r ∧ ¬ t + i = r + 1 := fun i hi => ⟨by omega, by omega⟩
          simp only [fi_const, fi_iload, fi_aload, fi_istore, fi_astore, fi_iinc, fi_bin, fi_div, fi_un, fi_dup, fi_dup2, fi_pop, fi_if, fi_cmp, fi_getf, fi_putf, fi_putr, fi_ald, fi_ast, fi_alen, fi_iret, fi_zret, fi_vret, fi_cut, fi_no, fi_s0, fi_s1, fi_s2, fi_s3, fi_s4, fi_v0, fi_v1, fi_v2, fi_v3, fi_v4, fi_v5, fi_n0, fi_n1, fi_n2, fi_mm, fi_stat, fi_alds, fi_tsw, List.getElem?_cons_zero, List.getElem?_cons_succ, List.set_cons_zero, List.set_cons_succ, List.length_cons, List.length_nil, Option.toList_some, Option.toList_none, List.cons_append, List.nil_append, Value.category, true_and, k_0, k_1, k_2, k_3, k_4, false_implies, true_implies, reduceCtorEq, hR.1, hR.2, hD.1, hD.2.2.2.1, hD.2.2.2.2.2, v0, nI_clamp (show c < 2 ^ 31 by omega), hic, nar_int]
        · refine ⟨?_, fun z => absurd trivial z⟩
          refine fin _ (-1) lf _ _ ?_ ?_ ?_ ?_ ?_ ?_ hpot
          · exact same_uu (same_uu (same_uu hs1 (Or.inr rfl)) (Or.inl rfl)) (Or.inl rfl)
          · simp [fs_u, v0, nI_1]
          · simp [fs_u, v4, qxF]
          · simp [fs_u, tiF]
          · simp [fs_u, v1]
          · intro i hi2
            simp only [fs_u, upd]
            by_cases z : i = c
            · simp [z]
            · simp [z, vs i, hsh i (by omega)]
        · refine ⟨fun z => absurd z (m1n hj), fun _ => ?_⟩
          have hij : vp_in (nI j) 12 := vp_in_nI hj (by decide)
          have e3 : ∀ (a b x : Nat → Nat → Int32), True := fun _ _ _ => trivial
          have r3 : ¬ t + 3 = r ∧ ¬ t + 3 = r + 1 := ⟨by omega, by omega⟩
          have r5 : ¬ t + 5 = r ∧ ¬ t + 5 = r + 1 := ⟨by omega, by omega⟩
          have x3 : ∀ k y, fs_u (fs_u (fs_u σ1 (r + 1) c (nI j)) r 5 0) r k y (t + 3) (nI j).toNatClampNeg = σ0 (t + 3) j := by
            intro k y
            rw [nI_clamp (by omega)]
            simp [fs_u, r3.1, r3.2, ft1 3 (by decide)]
          have x5 : ∀ k y, fs_u (fs_u (fs_u σ1 (r + 1) c (nI j)) r 5 0) r k y (t + 5) (nI j).toNatClampNeg = σ0 (t + 5) j := by
            intro k y
            rw [nI_clamp (by omega)]
            simp [fs_u, r5.1, r5.2, ft1 5 (by decide)]
          simp only [hij, true_and, x3, x5]
          refine ⟨fun w => ?_, fun w => ?_⟩
          · refine fin _ (nI j) lf _ _ ?_ ?_ ?_ ?_ ?_ ?_ hpot
            · exact same_uu (same_uu (same_uu (same_uu (same_uu hs1 (Or.inr rfl)) (Or.inl rfl)) (Or.inl rfl)) (Or.inl rfl)) (Or.inl rfl)
            · simp [fs_u, v0, nI_1]
            · simp [fs_u, v4, qxF, m1n hj]
            · simp [fs_u, tiF, m1n hj, nI_clamp (show j < 2 ^ 31 by omega), w]
            · simp [fs_u, v1]
            · intro i hi2
              simp only [fs_u, upd]
              by_cases z : i = c
              · simp [z]
              · simp [z, vs i, hsh i (by omega)]
          · refine fin _ (nI j) lf _ _ ?_ ?_ ?_ ?_ ?_ ?_ hpot
            · exact same_uu (same_uu (same_uu (same_uu (same_uu hs1 (Or.inr rfl)) (Or.inl rfl)) (Or.inl rfl)) (Or.inl rfl)) (Or.inl rfl)
            · simp [fs_u, v0, nI_1]
            · simp [fs_u, v4, qxF, m1n hj]
            · simp [fs_u, tiF, m1n hj, nI_clamp (show j < 2 ^ 31 by omega), w]
            · simp [fs_u, v1]
            · intro i hi2
              simp only [fs_u, upd]
              by_cases z : i = c
              · simp [z]
              · simp [z, vs i, hsh i (by omega)]
      refine pk_le 36 c (fun z => by omega) (fun _ => pk_le 12 c (fun z => ?_) (fun z => ⟨by decide, (c_has rain (show c < 32 by omega)).mono ?_⟩))
      · exact c71 false (by simp [raB, show ¬ c < 12 by omega])
      · rintro x M' ⟨rfl, rfl⟩
        simp only [fi_const, fi_iload, fi_aload, fi_istore, fi_astore, fi_iinc, fi_bin, fi_div, fi_un, fi_dup, fi_dup2, fi_pop, fi_if, fi_cmp, fi_getf, fi_putf, fi_putr, fi_ald, fi_ast, fi_alen, fi_iret, fi_zret, fi_vret, fi_cut, fi_no, fi_s0, fi_s1, fi_s2, fi_s3, fi_s4, fi_v0, fi_v1, fi_v2, fi_v3, fi_v4, fi_v5, fi_n0, fi_n1, fi_n2, fi_mm, fi_stat, fi_alds, fi_tsw, List.getElem?_cons_zero, List.getElem?_cons_succ, List.set_cons_zero, List.set_cons_succ, List.length_cons, List.length_nil, Option.toList_some, Option.toList_none, List.cons_append, List.nil_append, Value.category, true_and, k_0, k_1, k_2, k_3, k_4, false_implies, true_implies, reduceCtorEq, bI_eq0]
        exact ⟨fun w => c71 false (by simp [raB, w]), fun w => c71 true (by simp [raB, z]; simpa using w)⟩
end PR
