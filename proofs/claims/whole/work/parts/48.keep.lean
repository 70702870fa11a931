/-! ===== changes: what is kept ===== -/
def k0 (kp : Nat) : Nat := if 12 ≤ kp then 11 else kp
def p0 (kp : Nat) (P : Nat → Int32) : Nat → Int32 := if 12 ≤ kp then (fun b => P (b + 18)) else P
/-- the rows kept, once the row N is kept too -/
def keR (P N : Nat → Int32) (kp : Nat) : Nat → Int32 := fun b => if b < 18 * k0 kp then p0 kp P b else N (b - 18 * k0 kp)
theorem k0_le (kp : Nat) : k0 kp ≤ 11 := by unfold k0; split <;> omega
theorem acp_i {K : fs_P} {ls t : List Value} {S : List fs_Sh} {fr : Bool} {σ : Nat → Nat → Int32} {τ : Nat → Nat → Int64} {a b sp dp n na nb : Nat} (ha : S[a]? = some (.inl (.int, na))) (hb : S[b]? = some (.inl (.int, nb))) (h1 : sp + n ≤ na) (h2 : dp + n ≤ nb) (h3 : na < 2 ^ 31) (h4 : nb < 2 ^ 31) (ht : t.length ≤ 4) (hK : K ls t ((S, fr), fs_cp σ b (σ a) sp dp n, τ)) : fi_acp K ls (.int (nI n) :: .int (nI dp) :: .ref b :: .int (nI sp) :: .ref a :: t) ((S, fr), σ, τ) := by
  unfold fi_acp
  refine ⟨ht, na, nb, ha, hb, ⟨nI_pos (by omega), nI_pos (by omega), nI_pos (by omega)⟩, ?_, ?_, ?_⟩
  · rw [nI_clamp (by omega), nI_clamp (by omega)]; exact h1
  · rw [nI_clamp (by omega), nI_clamp (by omega)]; exact h2
  · rw [nI_clamp (by omega), nI_clamp (by omega), nI_clamp (by omega)]; exact hK
theorem cp_at (σ : Nat → Nat → Int32) (b : Nat) (f : Nat → Int32) (sp dp n : Nat) : fs_cp σ b f sp dp n b = va_cpy f (σ b) sp dp n := by
  funext j; simp [fs_cp]
theorem cp_ne {σ : Nat → Nat → Int32} {b c : Nat} {f : Nat → Int32} {sp dp n : Nat} (h : c ≠ b) : fs_cp σ b f sp dp n c = σ c := by
  funext j; simp [fs_cp, h]
section PC1
variable {g : fs_G} {d : Nat} {S : List fs_Sh} {fr : Bool} {σ : Nat → Nat → Int32} {τ : Nat → Nat → Int64} {V : Vt} {nL nA nS kp nb : Nat}
theorem l_keep36 (hX : shX S) {k : Nat} (hk : k ≤ 11) (h0 : σ 46 0 = nI k) : fs_R g m_X1_keep d (0, 0) 36 [.ref 46, .ref 2] [] ((S, fr), σ, τ) (fun r M' => r = none ∧ ∃ σ', M' = ((S, fr), σ', τ) ∧ same σ σ' (fun a => a = 46 ∨ a = 47) ∧ σ' 46 0 = nI (k + 1) ∧ ∀ b, b < 18 * (k + 1) → σ' 47 b = if b < 18 * k then σ 47 b else if b < 18 * k + 4 then σ 13 (b - 18 * k) else σ 12 (b - 18 * k - 4)) := by
  have hP := hX.2.2.1
  have hH := hX.2.2.2.2.2.1
  have hR := hX.2.2.2.2.2.2.1
  have e18 : nI k * 18 = nI (k * 18) := pk_mul k 18
  have e4 : nI (k * 18) + 4 = nI (k * 18 + 4) := nI_add (k * 18) 4
  refine S_X1_keep_36 ?_
  simp only [T_X1_keep_36, fi_const, fi_iload, fi_aload, fi_istore, fi_astore, fi_iinc, fi_bin, fi_div, fi_un, fi_dup, fi_dup2, fi_pop, fi_if, fi_cmp, fi_getf, fi_putf, fi_putr, fi_ald, fi_ast, fi_alen, fi_iret, fi_zret, fi_vret, fi_cut, fi_no, fi_s0, fi_s1, fi_s2, fi_s3, fi_s4, fi_v0, fi_v1, fi_v2, fi_v3, fi_v4, fi_v5, fi_n0, fi_n1, fi_n2, fi_mm, fi_stat, fi_alds, fi_tsw, List.getElem?_cons_zero, List.getElem?_cons_succ, List.set_cons_zero, List.set_cons_succ, List.length_cons, List.length_nil, Option.toList_some, Option.toList_none, List.cons_append, List.nil_append, Value.category, true_and, k_0, k_1, k_2, k_3, k_4, false_implies, true_implies, reduceCtorEq, hP.1, hH, hR, h0, e18, e4]
  refine acp_i (n := 4) (sp := 0) (a := 13) hP.2.2.2.2.2.2.2.2.2.2.2 hR (by omega) (by omega) (by decide) (by decide) (by decide) ?_
  have c46 : ∀ f sp dp n j, fs_cp σ 47 f sp dp n 46 j = σ 46 j := fun f sp dp n j => by simp [fs_cp]
  simp only [fi_const, fi_iload, fi_aload, fi_istore, fi_astore, fi_iinc, fi_bin, fi_div, fi_un, fi_dup, fi_dup2, fi_pop, fi_if, fi_cmp, fi_getf, fi_putf, fi_putr, fi_ald, fi_ast, fi_alen, fi_iret, fi_zret, fi_vret, fi_cut, fi_no, fi_s0, fi_s1, fi_s2, fi_s3, fi_s4, fi_v0, fi_v1, fi_v2, fi_v3, fi_v4, fi_v5, fi_n0, fi_n1, fi_n2, fi_mm, fi_stat, fi_alds, fi_tsw, List.getElem?_cons_zero, List.getElem?_cons_succ, List.set_cons_zero, List.set_cons_succ, List.length_cons, List.length_nil, Option.toList_some, Option.toList_none, List.cons_append, List.nil_append, Value.category, true_and, k_0, k_1, k_2, k_3, k_4, false_implies, true_implies, reduceCtorEq, hP.1, hH, c46, h0, e18, e4]
  refine acp_i (n := 14) (sp := 0) (a := 12) (dp := k * 18 + 4) hP.2.2.2.2.2.2.2.2.2.2.1 hR (by omega) (by omega) (by decide) (by decide) (by decide) ?_
  simp only [fi_const, fi_iload, fi_aload, fi_istore, fi_astore, fi_iinc, fi_bin, fi_div, fi_un, fi_dup, fi_dup2, fi_pop, fi_if, fi_cmp, fi_getf, fi_putf, fi_putr, fi_ald, fi_ast, fi_alen, fi_iret, fi_zret, fi_vret, fi_cut, fi_no, fi_s0, fi_s1, fi_s2, fi_s3, fi_s4, fi_v0, fi_v1, fi_v2, fi_v3, fi_v4, fi_v5, fi_n0, fi_n1, fi_n2, fi_mm, fi_stat, fi_alds, fi_tsw, List.getElem?_cons_zero, List.getElem?_cons_succ, List.set_cons_zero, List.set_cons_succ, List.length_cons, List.length_nil, Option.toList_some, Option.toList_none, List.cons_append, List.nil_append, Value.category, true_and, k_0, k_1, k_2, k_3, k_4, false_implies, true_implies, reduceCtorEq, hP.1, hH]
  refine ⟨_, rfl, fun a ha => ?_, ?_, fun b hb => ?_⟩
  · have h1 : ¬ a = 46 := fun z => ha (Or.inl z)
    have h2 : ¬ a = 47 := fun z => ha (Or.inr z)
    funext j
    simp only [fs_u, fs_cp, if_neg h2, if_neg (show ¬ (a = 46 ∧ j = 0) from fun z => h1 z.1)]
  · rw [u_eq, ← nI_1, ← h0]
    simp [fs_cp]
  · rw [fs_u_ne (by decide)]
    rw [cp_at, cp_at, cp_ne (show 12 ≠ 47 by decide)]
    by_cases q : b < 18 * k
    · rw [if_pos q, pk_cpy_out (Or.inl (by omega)), pk_cpy_out (Or.inl (by omega))]
    · rw [if_neg q]
      by_cases q2 : b < 18 * k + 4
      · rw [if_pos q2, pk_cpy_out (Or.inl (by omega)), pk_cpy_in (by omega) (by omega)]
        exact congrArg _ (by omega)
      · rw [if_neg q2, pk_cpy_in (by omega) (by omega)]
        exact congrArg _ (by omega)
theorem c_keep (hX : shX S) (hk : kp ≤ 12) (h0 : σ 46 0 = nI kp) : fs_Ct g m_X1_keep [.ref 46, .ref 2] ((S, fr), σ, τ) (fun r M' => r = none ∧ ∃ σ', M' = ((S, fr), σ', τ) ∧ same σ σ' (fun a => a = 46 ∨ a = 47) ∧ σ' 46 0 = nI (k0 kp + 1) ∧ ∀ b, b < 18 * (k0 kp + 1) → σ' 47 b = keR (σ 47) (fun i => if i < 4 then σ 13 i else σ 12 (i - 4)) kp b) := by
  have hH := hX.2.2.2.2.2.1
  have hR := hX.2.2.2.2.2.2.1
  refine fs_enterC (by decide) (by simp [fs_ok]) (Nat.le_of_ble_eq_true rfl) (fun d => S_X1_keep_0 ?_)
  show T_X1_keep_0 g d _ [.ref 46, .ref 2] [] _
  simp only [T_X1_keep_0, fi_const, fi_iload, fi_aload, fi_istore, fi_astore, fi_iinc, fi_bin, fi_div, fi_un, fi_dup, fi_dup2, fi_pop, fi_if, fi_cmp, fi_getf, fi_putf, fi_putr, fi_ald, fi_ast, fi_alen, fi_iret, fi_zret, fi_vret, fi_cut, fi_no, fi_s0, fi_s1, fi_s2, fi_s3, fi_s4, fi_v0, fi_v1, fi_v2, fi_v3, fi_v4, fi_v5, fi_n0, fi_n1, fi_n2, fi_mm, fi_stat, fi_alds, fi_tsw, List.getElem?_cons_zero, List.getElem?_cons_succ, List.set_cons_zero, List.set_cons_succ, List.length_cons, List.length_nil, Option.toList_some, Option.toList_none, List.cons_append, List.nil_append, Value.category, true_and, k_0, k_1, k_2, k_3, k_4, false_implies, true_implies, reduceCtorEq]
  simp only [hH, h0, fi_const, fi_iload, fi_aload, fi_istore, fi_astore, fi_iinc, fi_bin, fi_div, fi_un, fi_dup, fi_dup2, fi_pop, fi_if, fi_cmp, fi_getf, fi_putf, fi_putr, fi_ald, fi_ast, fi_alen, fi_iret, fi_zret, fi_vret, fi_cut, fi_no, fi_s0, fi_s1, fi_s2, fi_s3, fi_s4, fi_v0, fi_v1, fi_v2, fi_v3, fi_v4, fi_v5, fi_n0, fi_n1, fi_n2, fi_mm, fi_stat, fi_alds, fi_tsw, List.getElem?_cons_zero, List.getElem?_cons_succ, List.set_cons_zero, List.set_cons_succ, List.length_cons, List.length_nil, Option.toList_some, Option.toList_none, List.cons_append, List.nil_append, Value.category, true_and, k_0, k_1, k_2, k_3, k_4, false_implies, true_implies, reduceCtorEq]
  refine pk_lt kp 12 (fun q => ?_) (fun q => ?_)
  · refine fs_R_mono (l_keep36 hX (k := kp) (by omega) h0) ?_
    have e : k0 kp = kp := by unfold k0; rw [if_neg (by omega)]
    rintro r M' ⟨rfl, σ', rfl, hs, s1, s2⟩
    refine ⟨rfl, σ', rfl, hs, by rw [e]; exact s1, fun b hb => ?_⟩
    rw [e] at hb
    rw [s2 b hb]
    unfold keR p0
    rw [e, if_neg (show ¬ 12 ≤ kp by omega)]
    split
    · rfl
    · by_cases q2 : b < 18 * kp + 4
      · rw [if_pos q2]; simp only; rw [if_pos (by omega)]
      · rw [if_neg q2]; simp only; rw [if_neg (by omega)]
  · have e : k0 kp = 11 := by unfold k0; rw [if_pos (by omega)]
    simp only [hH, hR, fi_const, fi_iload, fi_aload, fi_istore, fi_astore, fi_iinc, fi_bin, fi_div, fi_un, fi_dup, fi_dup2, fi_pop, fi_if, fi_cmp, fi_getf, fi_putf, fi_putr, fi_ald, fi_ast, fi_alen, fi_iret, fi_zret, fi_vret, fi_cut, fi_no, fi_s0, fi_s1, fi_s2, fi_s3, fi_s4, fi_v0, fi_v1, fi_v2, fi_v3, fi_v4, fi_v5, fi_n0, fi_n1, fi_n2, fi_mm, fi_stat, fi_alds, fi_tsw, List.getElem?_cons_zero, List.getElem?_cons_succ, List.set_cons_zero, List.set_cons_succ, List.length_cons, List.length_nil, Option.toList_some, Option.toList_none, List.cons_append, List.nil_append, Value.category, true_and, k_0, k_1, k_2, k_3, k_4, false_implies, true_implies, reduceCtorEq, u_eq, show (11 : Int32) * 18 = nI 198 from rfl]
    refine acp_i (n := 198) (sp := 18) (dp := 0) (a := 47) hR hR (by omega) (by omega) (by decide) (by decide) (by decide) ?_
    simp only [fi_const, fi_iload, fi_aload, fi_istore, fi_astore, fi_iinc, fi_bin, fi_div, fi_un, fi_dup, fi_dup2, fi_pop, fi_if, fi_cmp, fi_getf, fi_putf, fi_putr, fi_ald, fi_ast, fi_alen, fi_iret, fi_zret, fi_vret, fi_cut, fi_no, fi_s0, fi_s1, fi_s2, fi_s3, fi_s4, fi_v0, fi_v1, fi_v2, fi_v3, fi_v4, fi_v5, fi_n0, fi_n1, fi_n2, fi_mm, fi_stat, fi_alds, fi_tsw, List.getElem?_cons_zero, List.getElem?_cons_succ, List.set_cons_zero, List.set_cons_succ, List.length_cons, List.length_nil, Option.toList_some, Option.toList_none, List.cons_append, List.nil_append, Value.category, true_and, k_0, k_1, k_2, k_3, k_4, false_implies, true_implies, reduceCtorEq]
    refine fs_R_mono (l_keep36 hX (k := 11) (by omega) (by rw [cp_ne (by decide), u_eq]; rfl)) ?_
    rintro r M' ⟨rfl, σ', rfl, hs, s1, s2⟩
    refine ⟨rfl, σ', rfl, fun a ha => ?_, by rw [e]; exact s1, fun b hb => ?_⟩
    · rw [hs a ha, cp_ne (fun z => ha (Or.inr z)), fs_u_ne (fun z => ha (Or.inl z))]
    rw [e] at hb
    rw [s2 b hb, cp_at, cp_ne (show 13 ≠ 47 by decide), cp_ne (show 12 ≠ 47 by decide), fs_u_ne (show 13 ≠ 46 by decide), fs_u_ne (show 12 ≠ 46 by decide), fs_u_ne (show 47 ≠ 46 by decide)]
    unfold keR p0
    rw [e, if_pos (show 12 ≤ kp by omega)]
    by_cases q3 : b < 18 * 11
    · rw [if_pos q3, if_pos q3, pk_cpy_in (by omega) (by omega)]
      exact congrArg _ (by omega)
    · rw [if_neg q3, if_neg q3]
      by_cases q2 : b < 18 * 11 + 4
      · rw [if_pos q2]; simp only; rw [if_pos (by omega)]
      · rw [if_neg q2]; simp only; rw [if_neg (by omega)]
end PC1
