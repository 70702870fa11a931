/-! ===== changes of the reference: what is kept ===== -/
def kpS (σ σ' : Nat → Nat → Int32) : Prop := ∀ a b, ¬ a = 63 → ¬ (a = 56 ∧ b = 9) → σ' a b = σ a b
section PC4
variable {g : fs_G} {d : Nat} {S : List fs_Sh} {fr : Bool} {σ : Nat → Nat → Int32} {τ : Nat → Nat → Int64} {V : Vt} {nL nA nS kp nb : Nat}
theorem l_keeps52 (hM : shM S 56) {k1 : Nat} (hk : k1 ≤ 11) : ∀ n j σ, j + n = 18 → σ 56 9 = nI k1 → fs_R g m_X9_keeps d (0, 0) 52 [.ref 56, .int (nI j)] [] ((S, fr), σ, τ) (fun r M' => r = none ∧ ∃ σ', M' = ((S, fr), σ', τ) ∧ kpS σ σ' ∧ σ' 56 9 = nI (k1 + 1) ∧ ∀ b, σ' 63 b = if 18 * k1 + j ≤ b ∧ b < 18 * k1 + 18 then σ 60 (b - 18 * k1) else σ 63 b)
  | 0, j, σ, hj, h9 => by
    refine S_X9_keeps_52 ?_
    simp only [T_X9_keeps_52, fi_const, fi_iload, fi_aload, fi_istore, fi_astore, fi_iinc, fi_bin, fi_div, fi_un, fi_dup, fi_dup2, fi_pop, fi_if, fi_cmp, fi_getf, fi_putf, fi_putr, fi_ald, fi_ast, fi_alen, fi_iret, fi_zret, fi_vret, fi_cut, fi_no, fi_s0, fi_s1, fi_s2, fi_s3, fi_s4, fi_v0, fi_v1, fi_v2, fi_v3, fi_v4, fi_v5, fi_n0, fi_n1, fi_n2, fi_mm, fi_stat, fi_alds, fi_tsw, List.getElem?_cons_zero, List.getElem?_cons_succ, List.set_cons_zero, List.set_cons_succ, List.length_cons, List.length_nil, Option.toList_some, Option.toList_none, List.cons_append, List.nil_append, Value.category, true_and, k_0, k_1, k_2, k_3, k_4, false_implies, true_implies, reduceCtorEq, hM.1, h9]
    refine pk_le 18 j (fun _ => ?_) (fun z => by omega)
    refine ⟨_, rfl, fun a b h1 h2 => ?_, by rw [u_eq, nI_1], fun b => ?_⟩
    · simp only [fs_u]; rw [if_neg h2]
    · rw [fs_u_ne (by decide), if_neg (by omega)]
  | n + 1, j, σ, hj, h9 => by
    have e18 : (18 : Int32) * nI k1 = nI (18 * k1) := pk_mul 18 k1
    refine S_X9_keeps_52 ?_
    simp only [T_X9_keeps_52, fi_const, fi_iload, fi_aload, fi_istore, fi_astore, fi_iinc, fi_bin, fi_div, fi_un, fi_dup, fi_dup2, fi_pop, fi_if, fi_cmp, fi_getf, fi_putf, fi_putr, fi_ald, fi_ast, fi_alen, fi_iret, fi_zret, fi_vret, fi_cut, fi_no, fi_s0, fi_s1, fi_s2, fi_s3, fi_s4, fi_v0, fi_v1, fi_v2, fi_v3, fi_v4, fi_v5, fi_n0, fi_n1, fi_n2, fi_mm, fi_stat, fi_alds, fi_tsw, List.getElem?_cons_zero, List.getElem?_cons_succ, List.set_cons_zero, List.set_cons_succ, List.length_cons, List.length_nil, Option.toList_some, Option.toList_none, List.cons_append, List.nil_append, Value.category, true_and, k_0, k_1, k_2, k_3, k_4, false_implies, true_implies, reduceCtorEq, hM.1, h9, e18, nI_add, hM.2.2.2.2.1, hM.2.2.2.2.2.2.2.1, nI_clamp (show j < 2 ^ 31 by omega), nI_clamp (show 18 * k1 + j < 2 ^ 31 by omega), show 56 + 4 = 60 from rfl, show 56 + 7 = 63 from rfl, nI_1]
    refine pk_le 18 j (fun z => by omega) (fun _ => ⟨vp_in_nI (by omega) (by decide), vp_in_nI (by omega) (by decide), ?_⟩)
    refine fs_R_mono (l_keeps52 hM hk n (j + 1) (fs_u σ 63 (18 * k1 + j) (σ 60 j)) (by omega) (by rw [fs_u_ne (by decide)]; exact h9)) ?_
    rintro r M' ⟨rfl, σ', rfl, hs, s1, s2⟩
    refine ⟨rfl, σ', rfl, fun a b h1 h2 => ?_, s1, fun b => ?_⟩
    · rw [hs a b h1 h2, fs_u_ne h1]
    · rw [s2 b, fs_u_ne (show 60 ≠ 63 by decide)]
      by_cases q : b = 18 * k1 + j
      · rw [if_neg (by omega), if_pos (by omega), q, u_eq]
        exact congrArg _ (by omega)
      · by_cases q2 : 18 * k1 + (j + 1) ≤ b ∧ b < 18 * k1 + 18
        · rw [if_pos q2, if_pos (by omega)]
        · rw [if_neg q2, if_neg (by omega)]
          simp only [fs_u]
          rw [if_neg (fun z => q z.2)]
theorem l_keeps12 (hM : shM S 56) : ∀ n k σ, k + n = 216 → 18 ≤ k → σ 56 9 = nI 12 → fs_R g m_X9_keeps d (0, 0) 12 [.ref 56, .int (nI k)] [] ((S, fr), σ, τ) (fun r M' => r = none ∧ ∃ σ', M' = ((S, fr), σ', τ) ∧ kpS σ σ' ∧ σ' 56 9 = nI 12 ∧ ∀ b, b < 216 → σ' 63 b = if 198 ≤ b then σ 60 (b - 198) else if k - 18 ≤ b then σ 63 (b + 18) else σ 63 b)
  | 0, k, σ, hk, h18, h9 => by
    refine S_X9_keeps_12 ?_
    simp only [T_X9_keeps_12, fi_const, fi_iload, fi_aload, fi_istore, fi_astore, fi_iinc, fi_bin, fi_div, fi_un, fi_dup, fi_dup2, fi_pop, fi_if, fi_cmp, fi_getf, fi_putf, fi_putr, fi_ald, fi_ast, fi_alen, fi_iret, fi_zret, fi_vret, fi_cut, fi_no, fi_s0, fi_s1, fi_s2, fi_s3, fi_s4, fi_v0, fi_v1, fi_v2, fi_v3, fi_v4, fi_v5, fi_n0, fi_n1, fi_n2, fi_mm, fi_stat, fi_alds, fi_tsw, List.getElem?_cons_zero, List.getElem?_cons_succ, List.set_cons_zero, List.set_cons_succ, List.length_cons, List.length_nil, Option.toList_some, Option.toList_none, List.cons_append, List.nil_append, Value.category, true_and, k_0, k_1, k_2, k_3, k_4, false_implies, true_implies, reduceCtorEq, hM.1, h9]
    refine pk_le 216 k (fun _ => ?_) (fun z => by omega)
    refine fs_R_mono (l_keeps52 hM (k1 := 11) (by decide) 18 0 (fs_u σ 56 9 (nI 12 - 1)) rfl (by rw [u_eq]; rfl)) ?_
    rintro r M' ⟨rfl, σ', rfl, hs, s1, s2⟩
    refine ⟨rfl, σ', rfl, fun a b h1 h2 => ?_, s1, fun b hb => ?_⟩
    · rw [hs a b h1 h2]; simp only [fs_u]; rw [if_neg h2]
    · rw [s2 b, fs_u_ne (show 60 ≠ 56 by decide), fs_u_ne (show 63 ≠ 56 by decide)]
      by_cases q : 198 ≤ b
      · rw [if_pos q, if_pos (by omega)]
      · rw [if_neg q, if_neg (by omega), if_neg (by omega)]
  | n + 1, k, σ, hk, h18, h9 => by
    obtain ⟨k', rfl⟩ : ∃ k', k = k' + 18 := ⟨k - 18, by omega⟩
    have e18 : nI (k' + 18) - 18 = nI k' := by
      rw [← nI_add k' 18, show nI 18 = 18 from rfl]
      simp
    refine S_X9_keeps_12 ?_
    simp only [T_X9_keeps_12, fi_const, fi_iload, fi_aload, fi_istore, fi_astore, fi_iinc, fi_bin, fi_div, fi_un, fi_dup, fi_dup2, fi_pop, fi_if, fi_cmp, fi_getf, fi_putf, fi_putr, fi_ald, fi_ast, fi_alen, fi_iret, fi_zret, fi_vret, fi_cut, fi_no, fi_s0, fi_s1, fi_s2, fi_s3, fi_s4, fi_v0, fi_v1, fi_v2, fi_v3, fi_v4, fi_v5, fi_n0, fi_n1, fi_n2, fi_mm, fi_stat, fi_alds, fi_tsw, List.getElem?_cons_zero, List.getElem?_cons_succ, List.set_cons_zero, List.set_cons_succ, List.length_cons, List.length_nil, Option.toList_some, Option.toList_none, List.cons_append, List.nil_append, Value.category, true_and, k_0, k_1, k_2, k_3, k_4, false_implies, true_implies, reduceCtorEq, hM.1, e18, hM.2.2.2.2.2.2.2.1, nI_clamp (show k' < 2 ^ 31 by omega), nI_clamp (show k' + 18 < 2 ^ 31 by omega), show 56 + 7 = 63 from rfl, nI_1]
    refine pk_le 216 (k' + 18) (fun z => by omega) (fun _ => ⟨vp_in_nI (by omega) (by decide), vp_in_nI (by omega) (by decide), ?_⟩)
    refine fs_R_mono (l_keeps12 hM n (k' + 18 + 1) (fs_u σ 63 k' (σ 63 (k' + 18))) (by omega) (by omega) (by rw [fs_u_ne (by decide)]; exact h9)) ?_
    rintro r M' ⟨rfl, σ', rfl, hs, s1, s2⟩
    refine ⟨rfl, σ', rfl, fun a b h1 h2 => ?_, s1, fun b hb => ?_⟩
    · rw [hs a b h1 h2, fs_u_ne h1]
    · rw [s2 b hb, fs_u_ne (show 60 ≠ 63 by decide)]
      by_cases q : 198 ≤ b
      · rw [if_pos q, if_pos q]
      · rw [if_neg q, if_neg q]
        simp only [fs_u]
        by_cases q2 : k' + 18 + 1 - 18 ≤ b
        · rw [if_pos q2, if_pos (show k' + 18 - 18 ≤ b by omega), if_neg (show ¬ (True ∧ b + 18 = k') from fun z => by omega)]
        · rw [if_neg q2]
          by_cases q3 : b = k'
          · rw [if_pos ⟨trivial, q3⟩, if_pos (by omega), q3]
          · rw [if_neg (fun z => q3 z.2), if_neg (by omega)]
theorem c_keepsM (hM : shM S 56) (hk : kp ≤ 12) (h9 : σ 56 9 = nI kp) : fs_Ct g m_X9_keeps [.ref 56] ((S, fr), σ, τ) (fun r M' => r = none ∧ ∃ σ', M' = ((S, fr), σ', τ) ∧ kpS σ σ' ∧ σ' 56 9 = nI (k0 kp + 1) ∧ ∀ b, b < 18 * (k0 kp + 1) → σ' 63 b = keR (σ 63) (σ 60) kp b) := by
  refine fs_enterC (by decide) (by simp [fs_ok]) (Nat.le_of_ble_eq_true rfl) (fun d => S_X9_keeps_0 ?_)
  show T_X9_keeps_0 g d _ [.ref 56, .null] [] _
  simp only [T_X9_keeps_0, fi_const, fi_iload, fi_aload, fi_istore, fi_astore, fi_iinc, fi_bin, fi_div, fi_un, fi_dup, fi_dup2, fi_pop, fi_if, fi_cmp, fi_getf, fi_putf, fi_putr, fi_ald, fi_ast, fi_alen, fi_iret, fi_zret, fi_vret, fi_cut, fi_no, fi_s0, fi_s1, fi_s2, fi_s3, fi_s4, fi_v0, fi_v1, fi_v2, fi_v3, fi_v4, fi_v5, fi_n0, fi_n1, fi_n2, fi_mm, fi_stat, fi_alds, fi_tsw, List.getElem?_cons_zero, List.getElem?_cons_succ, List.set_cons_zero, List.set_cons_succ, List.length_cons, List.length_nil, Option.toList_some, Option.toList_none, List.cons_append, List.nil_append, Value.category, true_and, k_0, k_1, k_2, k_3, k_4, false_implies, true_implies, reduceCtorEq]
  simp only [fi_const, fi_iload, fi_aload, fi_istore, fi_astore, fi_iinc, fi_bin, fi_div, fi_un, fi_dup, fi_dup2, fi_pop, fi_if, fi_cmp, fi_getf, fi_putf, fi_putr, fi_ald, fi_ast, fi_alen, fi_iret, fi_zret, fi_vret, fi_cut, fi_no, fi_s0, fi_s1, fi_s2, fi_s3, fi_s4, fi_v0, fi_v1, fi_v2, fi_v3, fi_v4, fi_v5, fi_n0, fi_n1, fi_n2, fi_mm, fi_stat, fi_alds, fi_tsw, List.getElem?_cons_zero, List.getElem?_cons_succ, List.set_cons_zero, List.set_cons_succ, List.length_cons, List.length_nil, Option.toList_some, Option.toList_none, List.cons_append, List.nil_append, Value.category, true_and, k_0, k_1, k_2, k_3, k_4, false_implies, true_implies, reduceCtorEq, hM.1, h9]
  refine ⟨fun q => ?_, fun q => ?_⟩
  · have e : kp = 12 := (nI_eq (by omega) (by decide)).mp q
    subst e
    refine fs_R_mono (l_keeps12 hM 198 18 σ rfl (by decide) h9) ?_
    rintro r M' ⟨rfl, σ', rfl, hs, s1, s2⟩
    refine ⟨rfl, σ', rfl, hs, s1, fun b hb => ?_⟩
    have e0 : k0 12 = 11 := rfl
    rw [e0] at hb
    rw [s2 b (by omega)]
    unfold keR p0
    rw [e0, if_pos (show 12 ≤ 12 by decide)]
    by_cases q : 198 ≤ b
    · rw [if_pos q, if_neg (by omega)]
    · rw [if_neg q, if_pos (by omega), if_pos (by omega)]
  · have e : ¬ kp = 12 := fun z => q (by rw [z]; rfl)
    have e0 : k0 kp = kp := by unfold k0; rw [if_neg (by omega)]
    refine fs_R_mono (l_keeps52 hM (k1 := kp) (by omega) 18 0 σ rfl h9) ?_
    rintro r M' ⟨rfl, σ', rfl, hs, s1, s2⟩
    refine ⟨rfl, σ', rfl, hs, by rw [e0]; exact s1, fun b hb => ?_⟩
    rw [e0] at hb
    rw [s2 b]
    unfold keR p0
    rw [e0, if_neg (show ¬ 12 ≤ kp by omega)]
    by_cases q : b < 18 * kp
    · rw [if_neg (by omega), if_pos q]
    · rw [if_pos (by omega), if_neg q]
end PC4
