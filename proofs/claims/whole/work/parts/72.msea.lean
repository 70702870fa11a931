/-! ===== the search of the reference: rows, standing ===== -/
theorem nI_mod {a d : Nat} (ha : a < 2 ^ 31) (h0 : 0 < d) (hd : d < 2 ^ 31) : nI a % nI d = nI (a % d) := by
  apply Int32.toInt_inj.mp
  have hlt : a % d < d := Nat.mod_lt _ h0
  rw [Int32.toInt_mod, nI_toInt ha, nI_toInt hd, nI_toInt (by omega), Int.tmod_eq_emod_of_nonneg (by omega)]
  rfl
section PS7
variable {g : fs_G} {d : Nat} {S : List fs_Sh} {fr : Bool} {σ σ0 : Nat → Nat → Int32} {τ : Nat → Nat → Int64} {V : Vt} {nL nA nS kp nb : Nat}
theorem l_copiesL {a b L : Nat} (hL : L < 2 ^ 31) (hab : a ≠ b) (ha : S[a]? = some (.inl (.int, L))) (hb : S[b]? = some (.inl (.int, L))) : ∀ n k σ, k + n = L → fs_R g m_X9_copies d (0, 0) 2 [.ref a, .ref b, .int (nI k)] [] ((S, fr), σ, τ) (fun r M' => r = none ∧ ∃ σ', M' = ((S, fr), σ', τ) ∧ (∀ c, c ≠ b → σ' c = σ c) ∧ ∀ j, σ' b j = if k ≤ j ∧ j < L then σ a j else σ b j)
  | 0, k, σ, hk => by
    refine S_X9_copies_2 ?_
    simp only [T_X9_copies_2, fi_const, fi_iload, fi_aload, fi_istore, fi_astore, fi_iinc, fi_bin, fi_div, fi_un, fi_dup, fi_dup2, fi_pop, fi_if, fi_cmp, fi_getf, fi_putf, fi_putr, fi_ald, fi_ast, fi_alen, fi_iret, fi_zret, fi_vret, fi_cut, fi_no, fi_s0, fi_s1, fi_s2, fi_s3, fi_s4, fi_v0, fi_v1, fi_v2, fi_v3, fi_v4, fi_v5, fi_n0, fi_n1, fi_n2, fi_mm, fi_stat, fi_alds, fi_tsw, List.getElem?_cons_zero, List.getElem?_cons_succ, List.set_cons_zero, List.set_cons_succ, List.length_cons, List.length_nil, Option.toList_some, Option.toList_none, List.cons_append, List.nil_append, Value.category, true_and, k_0, k_1, k_2, k_3, k_4, false_implies, true_implies, reduceCtorEq, ha, fi_alen]
    refine ⟨Or.inl trivial, pk_le L k (fun _ => ?_) (fun z => by omega)⟩
    exact ⟨σ, rfl, fun _ _ => rfl, fun j => by rw [if_neg (by omega)]⟩
  | n + 1, k, σ, hk => by
    have hi : vp_in (nI k) L := vp_in_nI (by omega) hL
    refine S_X9_copies_2 ?_
    simp only [T_X9_copies_2, fi_const, fi_iload, fi_aload, fi_istore, fi_astore, fi_iinc, fi_bin, fi_div, fi_un, fi_dup, fi_dup2, fi_pop, fi_if, fi_cmp, fi_getf, fi_putf, fi_putr, fi_ald, fi_ast, fi_alen, fi_iret, fi_zret, fi_vret, fi_cut, fi_no, fi_s0, fi_s1, fi_s2, fi_s3, fi_s4, fi_v0, fi_v1, fi_v2, fi_v3, fi_v4, fi_v5, fi_n0, fi_n1, fi_n2, fi_mm, fi_stat, fi_alds, fi_tsw, List.getElem?_cons_zero, List.getElem?_cons_succ, List.set_cons_zero, List.set_cons_succ, List.length_cons, List.length_nil, Option.toList_some, Option.toList_none, List.cons_append, List.nil_append, Value.category, true_and, k_0, k_1, k_2, k_3, k_4, false_implies, true_implies, reduceCtorEq, ha, hb, fi_alen, nI_clamp (show k < 2 ^ 31 by omega), hi, nI_1]
    refine ⟨Or.inl trivial, pk_le L k (fun z => by omega) (fun _ => ?_)⟩
    refine fs_R_mono (l_copiesL hL hab ha hb n (k + 1) (fs_u σ b k (σ a k)) (by omega)) ?_
    rintro r M' ⟨rfl, σ', rfl, hs, s2⟩
    refine ⟨rfl, σ', rfl, fun c hc => by rw [hs c hc, fs_u_ne hc], fun j => ?_⟩
    rw [s2 j, fs_u_ne hab]
    by_cases q : j = k
    · rw [if_neg (show ¬ (k + 1 ≤ j ∧ j < L) by omega), if_pos (show k ≤ j ∧ j < L by omega), q, u_eq]
    · by_cases q2 : k + 1 ≤ j ∧ j < L
      · rw [if_pos q2, if_pos (by omega)]
      · rw [if_neg q2, if_neg (by omega)]
        simp only [fs_u]
        rw [if_neg (fun z => q z.2)]
theorem c_copiesL {a b L : Nat} (hL : L < 2 ^ 31) (hab : a ≠ b) (ha : S[a]? = some (.inl (.int, L))) (hb : S[b]? = some (.inl (.int, L))) : fs_Ct g m_X9_copies [.ref a, .ref b] ((S, fr), σ, τ) (fun r M' => r = none ∧ ∃ σ', M' = ((S, fr), σ', τ) ∧ (∀ c, c ≠ b → σ' c = σ c) ∧ ∀ j, σ' b j = if j < L then σ a j else σ b j) := by
  refine fs_enterC (by decide) (by simp [fs_ok]) (Nat.le_of_ble_eq_true rfl) (fun d => S_X9_copies_0 ?_)
  show T_X9_copies_0 g d _ [.ref a, .ref b, .null] [] _
  simp only [T_X9_copies_0, fi_const, fi_iload, fi_aload, fi_istore, fi_astore, fi_iinc, fi_bin, fi_div, fi_un, fi_dup, fi_dup2, fi_pop, fi_if, fi_cmp, fi_getf, fi_putf, fi_putr, fi_ald, fi_ast, fi_alen, fi_iret, fi_zret, fi_vret, fi_cut, fi_no, fi_s0, fi_s1, fi_s2, fi_s3, fi_s4, fi_v0, fi_v1, fi_v2, fi_v3, fi_v4, fi_v5, fi_n0, fi_n1, fi_n2, fi_mm, fi_stat, fi_alds, fi_tsw, List.getElem?_cons_zero, List.getElem?_cons_succ, List.set_cons_zero, List.set_cons_succ, List.length_cons, List.length_nil, Option.toList_some, Option.toList_none, List.cons_append, List.nil_append, Value.category, true_and, k_0, k_1, k_2, k_3, k_4, false_implies, true_implies, reduceCtorEq]
  refine fs_R_mono (l_copiesL hL hab ha hb L 0 σ (by omega)) ?_
  rintro r M' ⟨rfl, σ', rfl, hs, s2⟩
  exact ⟨rfl, σ', rfl, hs, fun j => by rw [s2 j]; simp⟩
theorem l_lays (hM : shM S 56) {n x : Nat} (hn : n ≤ 7) (hx : x < 2 ^ 31) : ∀ k σ s, k ≤ n → σ 56 31 = nI n → (∀ j, j < 32 → (bt s j = true ↔ ∃ i, k ≤ i ∧ i < n ∧ rwN n x i = j)) → (∀ i, k ≤ i → i < n → σ 67 i = nI (rwN n x i)) → fs_R g m_X9_laysRow d (0, 0) 12 [.ref 56, .int (nI x), .int (nI (x / n ^ (n - k))), .int s, .int (nI k - 1)] [] ((S, fr), σ, τ) (fun r M' => r = some (.int (bI (pmB (rwN n x) n))) ∧ ∃ σ', M' = ((S, fr), σ', τ) ∧ (∀ c, c ≠ 67 → σ' c = σ c) ∧ ∀ i, i < n → σ' 67 i = nI (rwN n x i))
  | 0, σ, s, hk, h31, hs, hr => by
    have e1 : (1 : Int32) <<< (nI n &&& 31) = nI (2 ^ n) := by
      have := pk_shlN (n := 1) (nI n &&& 31) n (sh_am (by omega)) (by rw [Nat.one_mul]; exact Nat.pow_lt_pow_right (by decide) (by omega))
      rw [Nat.one_mul] at this
      exact this
    have hp : 0 < 2 ^ n := Nat.pow_pos (by decide)
    have e2 : nI (2 ^ n) - 1 = nI (2 ^ n - 1) := pk_sub (b := 1) (by omega)
    refine S_X9_laysRow_12 ?_
    simp only [T_X9_laysRow_12, fi_const, fi_iload, fi_aload, fi_istore, fi_astore, fi_iinc, fi_bin, fi_div, fi_un, fi_dup, fi_dup2, fi_pop, fi_if, fi_cmp, fi_getf, fi_putf, fi_putr, fi_ald, fi_ast, fi_alen, fi_iret, fi_zret, fi_vret, fi_cut, fi_no, fi_s0, fi_s1, fi_s2, fi_s3, fi_s4, fi_v0, fi_v1, fi_v2, fi_v3, fi_v4, fi_v5, fi_n0, fi_n1, fi_n2, fi_mm, fi_stat, fi_alds, fi_tsw, List.getElem?_cons_zero, List.getElem?_cons_succ, List.set_cons_zero, List.set_cons_succ, List.length_cons, List.length_nil, Option.toList_some, Option.toList_none, List.cons_append, List.nil_append, Value.category, true_and, k_0, k_1, k_2, k_3, k_4, false_implies, true_implies, reduceCtorEq, hM.1, h31, e1, e2]
    refine ⟨fun _ => ?_, fun z => absurd (show nI 0 - 1 < 0 by decide) z⟩
    have key : s = nI (2 ^ n - 1) ↔ pmB (rwN n x) n = true := by
      constructor
      · intro z
        refine decide_eq_true (ct_all (fun j hj => ?_))
        have hb : bt s j = true := by rw [z, bt_nI _ (by omega), Nat.testBit_two_pow_sub_one]; simp [hj]
        obtain ⟨i, -, hi, e⟩ := (hs j (by omega)).mp hb
        exact (inS_iff _ _ _).mpr ⟨i, hi, e⟩
      · intro z
        refine bt_ext (fun j hj => ?_)
        rw [bt_nI _ hj, Nat.testBit_two_pow_sub_one]
        by_cases q : j < n
        · obtain ⟨i, hi, e⟩ := pm_sur z q
          rw [(hs j hj).mpr ⟨i, Nat.zero_le _, hi, e⟩]
          simp [q]
        · cases w : bt s j with
          | false => simp [q]
          | true =>
            obtain ⟨i, -, hi, e⟩ := (hs j hj).mp w
            have : rwN n x i < n := rwN_lt (by omega)
            omega
    refine ⟨fun z => ?_, fun z => ?_⟩
    · rw [key.mp z]
      exact ⟨Or.inr trivial, rfl, σ, rfl, fun _ _ => rfl, fun i hi => hr i (Nat.zero_le _) hi⟩
    · have : pmB (rwN n x) n = false := by cases w : pmB (rwN n x) n; rfl; exact absurd (key.mpr w) z
      rw [this]
      exact ⟨Or.inl trivial, rfl, σ, rfl, fun _ _ => rfl, fun i hi => hr i (Nat.zero_le _) hi⟩
  | k + 1, σ, s, hk, h31, hs, hr => by
    have hi : vp_in (nI k) 7 := vp_in_nI (by omega) (by decide)
    have hy : x / n ^ (n - (k + 1)) < 2 ^ 31 := Nat.lt_of_le_of_lt (Nat.div_le_self _ _) hx
    have em : nI (x / n ^ (n - (k + 1))) % nI n = nI (rwN n x k) := by
      rw [nI_mod hy (by omega) (by omega)]
      unfold rwN
      rw [show n - (k + 1) = n - 1 - k by omega]
    have ed : nI (x / n ^ (n - (k + 1))) / nI n = nI (x / n ^ (n - k)) := by
      rw [pk_div hy (by omega) (by omega), Nat.div_div_eq_div_mul, ← Nat.pow_succ, show (n - (k + 1)).succ = n - k by omega]
    have hrk : rwN n x k < n := rwN_lt (by omega)
    have hz : ¬ nI n = 0 := nI_ne0 (by omega) (by omega)
    have e67 : fs_u σ 67 k (vp_nar .int (nI (rwN n x k))) 67 k = nI (rwN n x k) := u_eq ..
    have e31 : fs_u σ 67 k (vp_nar .int (nI (rwN n x k))) 56 31 = nI n := by rw [fs_u_ne (by decide)]; exact h31
    refine S_X9_laysRow_12 ?_
    simp only [T_X9_laysRow_12, fi_const, fi_iload, fi_aload, fi_istore, fi_astore, fi_iinc, fi_bin, fi_div, fi_un, fi_dup, fi_dup2, fi_pop, fi_if, fi_cmp, fi_getf, fi_putf, fi_putr, fi_ald, fi_ast, fi_alen, fi_iret, fi_zret, fi_vret, fi_cut, fi_no, fi_s0, fi_s1, fi_s2, fi_s3, fi_s4, fi_v0, fi_v1, fi_v2, fi_v3, fi_v4, fi_v5, fi_n0, fi_n1, fi_n2, fi_mm, fi_stat, fi_alds, fi_tsw, List.getElem?_cons_zero, List.getElem?_cons_succ, List.set_cons_zero, List.set_cons_succ, List.length_cons, List.length_nil, Option.toList_some, Option.toList_none, List.cons_append, List.nil_append, Value.category, true_and, k_0, k_1, k_2, k_3, k_4, false_implies, true_implies, reduceCtorEq, nI_pred, hM.1, h31, hM.2.2.2.2.2.2.2.2.2.2.2.1, show 56 + 11 = 67 from rfl, hi, nI_clamp (show k < 2 ^ 31 by omega), em, e31, ed, e67, hz, not_false_eq_true, m1_eq]
    refine ⟨fun z => absurd z (nI_pos (by omega)), fun _ => ?_⟩
    refine fs_R_mono (l_lays hM hn hx k (fs_u σ 67 k (nI (rwN n x k))) (s ||| 1 <<< (nI (rwN n x k) &&& 31)) (by omega) (by rw [fs_u_ne (by decide)]; exact h31) (fun j hj => ?_) (fun i h1 h2 => ?_)) ?_
    · rw [bt_or1 (by omega) hj, Bool.or_eq_true, hs j hj, decide_eq_true_eq]
      constructor
      · rintro (⟨i, h1, h2, h3⟩ | h)
        · exact ⟨i, by omega, h2, h3⟩
        · exact ⟨k, Nat.le_refl _, by omega, h.symm⟩
      · rintro ⟨i, h1, h2, h3⟩
        by_cases q : i = k
        · rw [q] at h3; exact Or.inr h3.symm
        · exact Or.inl ⟨i, by omega, h2, h3⟩
    · by_cases q : i = k
      · rw [q, u_eq]
      · simp only [fs_u]
        rw [if_neg (fun z => q z.2)]
        exact hr i (by omega) h2
    rintro r M' ⟨rfl, σ', rfl, f1, f2⟩
    exact ⟨rfl, σ', rfl, fun c hc => by rw [f1 c hc, fs_u_ne hc], f2⟩
theorem c_lays (hM : shM S 56) {n x : Nat} (hn : n ≤ 7) (hx : x < 2 ^ 31) (h31 : σ 56 31 = nI n) : fs_Ct g m_X9_laysRow [.ref 56, .int (nI x)] ((S, fr), σ, τ) (fun r M' => r = some (.int (bI (pmB (rwN n x) n))) ∧ ∃ σ', M' = ((S, fr), σ', τ) ∧ (∀ c, c ≠ 67 → σ' c = σ c) ∧ ∀ i, i < n → σ' 67 i = nI (rwN n x i)) := by
  refine fs_enterC (by decide) (by simp [fs_ok]) (Nat.le_of_ble_eq_true rfl) (fun d => S_X9_laysRow_0 ?_)
  show T_X9_laysRow_0 g d _ [.ref 56, .int (nI x), .null, .null, .null] [] _
  simp only [T_X9_laysRow_0, fi_const, fi_iload, fi_aload, fi_istore, fi_astore, fi_iinc, fi_bin, fi_div, fi_un, fi_dup, fi_dup2, fi_pop, fi_if, fi_cmp, fi_getf, fi_putf, fi_putr, fi_ald, fi_ast, fi_alen, fi_iret, fi_zret, fi_vret, fi_cut, fi_no, fi_s0, fi_s1, fi_s2, fi_s3, fi_s4, fi_v0, fi_v1, fi_v2, fi_v3, fi_v4, fi_v5, fi_n0, fi_n1, fi_n2, fi_mm, fi_stat, fi_alds, fi_tsw, List.getElem?_cons_zero, List.getElem?_cons_succ, List.set_cons_zero, List.set_cons_succ, List.length_cons, List.length_nil, Option.toList_some, Option.toList_none, List.cons_append, List.nil_append, Value.category, true_and, k_0, k_1, k_2, k_3, k_4, false_implies, true_implies, reduceCtorEq]
  simp only [fi_const, fi_iload, fi_aload, fi_istore, fi_astore, fi_iinc, fi_bin, fi_div, fi_un, fi_dup, fi_dup2, fi_pop, fi_if, fi_cmp, fi_getf, fi_putf, fi_putr, fi_ald, fi_ast, fi_alen, fi_iret, fi_zret, fi_vret, fi_cut, fi_no, fi_s0, fi_s1, fi_s2, fi_s3, fi_s4, fi_v0, fi_v1, fi_v2, fi_v3, fi_v4, fi_v5, fi_n0, fi_n1, fi_n2, fi_mm, fi_stat, fi_alds, fi_tsw, List.getElem?_cons_zero, List.getElem?_cons_succ, List.set_cons_zero, List.set_cons_succ, List.length_cons, List.length_nil, Option.toList_some, Option.toList_none, List.cons_append, List.nil_append, Value.category, true_and, k_0, k_1, k_2, k_3, k_4, false_implies, true_implies, reduceCtorEq, hM.1, h31]
  have := l_lays (g := g) (d := d) (S := S) (fr := fr) (τ := τ) hM hn hx n σ 0 (Nat.le_refl _) h31 (fun j hj => by rw [bt_zero]; exact ⟨fun z => absurd z (by decide), fun ⟨i, h1, h2, _⟩ => by omega⟩) (fun i h1 h2 => by omega)
  rw [Nat.sub_self, Nat.pow_zero, Nat.div_one] at this
  exact this
/-- the days stand as a row says -/
theorem l_stands24 (hM : shM S 56) {n b k : Nat} {r : Nat → Nat} {x : Int32} {Q : Option Value → fs_M → Prop} (hn : n ≤ 7) (hk : k < 14) (hb : S[b]? = some (.inl (.int, 7))) (hb2 : b ≠ 60) (hr : ∀ i, i < n → r i < n) : ∀ m i σ, i + m = n → σ 56 31 = nI n → (∀ j, j < n → σ b j = nI (r j)) → (∀ j, j < n → σ 66 j = nI (owV V nS j)) → σ 62 (4 + k) = x → σ 60 (4 + k) = sdF x (fun j => owV V nS (r j)) i →
    (∀ σ' z, (∀ c, c ≠ 60 → σ' c = σ c) → (∀ j, j ≠ 4 + k → σ' 60 j = σ 60 j) → σ' 60 (4 + k) = sdF x (fun j => owV V nS (r j)) n → fs_R g m_X9_stands d (0, 0) 2 [.ref 56, .ref b, .int (nI (k + 1)), z] [] ((S, fr), σ', τ) Q) → fs_R g m_X9_stands d (0, 0) 24 [.ref 56, .ref b, .int (nI k), .int (nI i)] [] ((S, fr), σ, τ) Q
  | 0, i, σ, hi, h31, h1, h2, h3, h4, K => by
    refine S_X9_stands_24 ?_
    simp only [T_X9_stands_24, fi_const, fi_iload, fi_aload, fi_istore, fi_astore, fi_iinc, fi_bin, fi_div, fi_un, fi_dup, fi_dup2, fi_pop, fi_if, fi_cmp, fi_getf, fi_putf, fi_putr, fi_ald, fi_ast, fi_alen, fi_iret, fi_zret, fi_vret, fi_cut, fi_no, fi_s0, fi_s1, fi_s2, fi_s3, fi_s4, fi_v0, fi_v1, fi_v2, fi_v3, fi_v4, fi_v5, fi_n0, fi_n1, fi_n2, fi_mm, fi_stat, fi_alds, fi_tsw, List.getElem?_cons_zero, List.getElem?_cons_succ, List.set_cons_zero, List.set_cons_succ, List.length_cons, List.length_nil, Option.toList_some, Option.toList_none, List.cons_append, List.nil_append, Value.category, true_and, k_0, k_1, k_2, k_3, k_4, false_implies, true_implies, reduceCtorEq, hM.1, h31, nI_1]
    refine pk_le n i (fun _ => ?_) (fun z => by omega)
    exact K σ _ (fun _ _ => rfl) (fun _ _ => rfl) (by rw [h4, show i = n by omega])
  | m + 1, i, σ, hi, h31, h1, h2, h3, h4, K => by
    have i18 : vp_in (nI (4 + k)) 18 := vp_in_nI (by omega) (by decide)
    have i7 : vp_in (nI i) 7 := vp_in_nI (by omega) (by decide)
    have hri := hr i (by omega)
    have i7' : vp_in (nI (r i)) 7 := vp_in_nI (by omega) (by decide)
    have e1 := h1 i (by omega)
    have e2 := h2 (r i) hri
    refine S_X9_stands_24 ?_
    simp only [T_X9_stands_24, fi_const, fi_iload, fi_aload, fi_istore, fi_astore, fi_iinc, fi_bin, fi_div, fi_un, fi_dup, fi_dup2, fi_pop, fi_if, fi_cmp, fi_getf, fi_putf, fi_putr, fi_ald, fi_ast, fi_alen, fi_iret, fi_zret, fi_vret, fi_cut, fi_no, fi_s0, fi_s1, fi_s2, fi_s3, fi_s4, fi_v0, fi_v1, fi_v2, fi_v3, fi_v4, fi_v5, fi_n0, fi_n1, fi_n2, fi_mm, fi_stat, fi_alds, fi_tsw, List.getElem?_cons_zero, List.getElem?_cons_succ, List.set_cons_zero, List.set_cons_succ, List.length_cons, List.length_nil, Option.toList_some, Option.toList_none, List.cons_append, List.nil_append, Value.category, true_and, k_0, k_1, k_2, k_3, k_4, false_implies, true_implies, reduceCtorEq, hM.1, h31, nI_1, hM.2.2.2.2.1, hM.2.2.2.2.2.2.1, hM.2.2.2.2.2.2.2.2.2.2.1, hb, li_4, i18, i7, i7', nI_clamp (show 4 + k < 2 ^ 31 by omega), nI_clamp (show i < 2 ^ 31 by omega), nI_clamp (show r i < 2 ^ 31 by omega), show 56 + 4 = 60 from rfl, show 56 + 6 = 62 from rfl, show 56 + 10 = 66 from rfl, e1, e2, h3]
    refine pk_le n i (fun z => by omega) (fun _ => ⟨fun q => ?_, fun q => ?_⟩)
    · refine l_stands24 hM hn hk hb hb2 hr m (i + 1) (fs_u σ 60 (4 + k) (nI i)) (by omega) (by rw [fs_u_ne (by decide)]; exact h31) (by rw [fs_u_ne hb2]; exact h1) (by rw [fs_u_ne (by decide)]; exact h2) (by rw [fs_u_ne (by decide)]; exact h3) ?_ (fun σ' z f1 f2 f3 => K σ' z (fun c hc => by rw [f1 c hc, fs_u_ne hc]) (fun j hj => ?_) f3)
      · rw [u_eq]; simp only [sdF]; rw [if_pos q]
      · rw [f2 j hj]; simp only [fs_u]; rw [if_neg (fun z => hj z.2)]
    · refine l_stands24 hM hn hk hb hb2 hr m (i + 1) σ (by omega) h31 h1 h2 h3 ?_ K
      rw [h4]; simp only [sdF]; rw [if_neg q]
theorem l_stands (hM : shM S 56) {n b : Nat} {r : Nat → Nat} (hn : n ≤ 7) (hnS : nS ≤ 14) (hb : S[b]? = some (.inl (.int, 7))) (hb2 : b ≠ 60) (hr : ∀ i, i < n → r i < n) : ∀ m k σ z, k + m = nS → σ 58 82 = nI nS → σ 56 31 = nI n → (∀ j, j < n → σ b j = nI (r j)) → (∀ j, j < n → σ 66 j = nI (owV V nS j)) → fs_R g m_X9_stands d (0, 0) 2 [.ref 56, .ref b, .int (nI k), z] [] ((S, fr), σ, τ) (fun x M' => x = none ∧ ∃ σ', M' = ((S, fr), σ', τ) ∧ (∀ c, c ≠ 60 → σ' c = σ c) ∧ ∀ j, σ' 60 j = if 4 + k ≤ j ∧ j < 4 + nS then sdF (σ 62 j) (fun i => owV V nS (r i)) n else σ 60 j)
  | 0, k, σ, z, hk, h82, h31, h1, h2 => by
    refine S_X9_stands_2 ?_
    simp only [T_X9_stands_2, fi_const, fi_iload, fi_aload, fi_istore, fi_astore, fi_iinc, fi_bin, fi_div, fi_un, fi_dup, fi_dup2, fi_pop, fi_if, fi_cmp, fi_getf, fi_putf, fi_putr, fi_ald, fi_ast, fi_alen, fi_iret, fi_zret, fi_vret, fi_cut, fi_no, fi_s0, fi_s1, fi_s2, fi_s3, fi_s4, fi_v0, fi_v1, fi_v2, fi_v3, fi_v4, fi_v5, fi_n0, fi_n1, fi_n2, fi_mm, fi_stat, fi_alds, fi_tsw, List.getElem?_cons_zero, List.getElem?_cons_succ, List.set_cons_zero, List.set_cons_succ, List.length_cons, List.length_nil, Option.toList_some, Option.toList_none, List.cons_append, List.nil_append, Value.category, true_and, k_0, k_1, k_2, k_3, k_4, false_implies, true_implies, reduceCtorEq, hM.1, hM.2.2.1, show 56 + 2 = 58 from rfl, k_82, h82]
    refine ⟨pk_in 82 83 (by decide), pk_le nS k (fun _ => ?_) (fun z => by omega)⟩
    exact ⟨σ, rfl, fun _ _ => rfl, fun j => by rw [if_neg (by omega)]⟩
  | m + 1, k, σ, z, hk, h82, h31, h1, h2 => by
    have i18 : vp_in (nI (4 + k)) 18 := vp_in_nI (by omega) (by decide)
    refine S_X9_stands_2 ?_
    simp only [T_X9_stands_2, fi_const, fi_iload, fi_aload, fi_istore, fi_astore, fi_iinc, fi_bin, fi_div, fi_un, fi_dup, fi_dup2, fi_pop, fi_if, fi_cmp, fi_getf, fi_putf, fi_putr, fi_ald, fi_ast, fi_alen, fi_iret, fi_zret, fi_vret, fi_cut, fi_no, fi_s0, fi_s1, fi_s2, fi_s3, fi_s4, fi_v0, fi_v1, fi_v2, fi_v3, fi_v4, fi_v5, fi_n0, fi_n1, fi_n2, fi_mm, fi_stat, fi_alds, fi_tsw, List.getElem?_cons_zero, List.getElem?_cons_succ, List.set_cons_zero, List.set_cons_succ, List.length_cons, List.length_nil, Option.toList_some, Option.toList_none, List.cons_append, List.nil_append, Value.category, true_and, k_0, k_1, k_2, k_3, k_4, false_implies, true_implies, reduceCtorEq, hM.1, hM.2.2.1, show 56 + 2 = 58 from rfl, k_82, h82, hM.2.2.2.2.1, li_4, i18, nI_clamp (show 4 + k < 2 ^ 31 by omega), show 56 + 4 = 60 from rfl]
    refine ⟨pk_in 82 83 (by decide), pk_le nS k (fun z => by omega) (fun _ => ?_)⟩
    refine l_stands24 (x := σ 62 (4 + k)) hM hn (show k < 14 by omega) hb hb2 hr n 0 (fs_u σ 60 (4 + k) (-1)) (by omega) (by rw [fs_u_ne (by decide)]; exact h31) (by rw [fs_u_ne hb2]; exact h1) (by rw [fs_u_ne (by decide)]; exact h2) (by rw [fs_u_ne (by decide)]) (u_eq ..) (fun σ1 z1 f1 f2 f3 => ?_)
    have g1 : ∀ c, c ≠ 60 → σ1 c = σ c := fun c hc => by rw [f1 c hc, fs_u_ne hc]
    refine fs_R_mono (l_stands hM hn hnS hb hb2 hr m (k + 1) σ1 z1 (by omega) (by rw [g1 58 (by decide)]; exact h82) (by rw [g1 56 (by decide)]; exact h31) (by rw [g1 b hb2]; exact h1) (by rw [g1 66 (by decide)]; exact h2)) ?_
    rintro x M' ⟨rfl, σ', rfl, f4, f5⟩
    refine ⟨rfl, σ', rfl, fun c hc => by rw [f4 c hc, g1 c hc], fun j => ?_⟩
    rw [f5 j, g1 62 (by decide)]
    by_cases q : j = 4 + k
    · rw [if_neg (show ¬ (4 + (k + 1) ≤ j ∧ j < 4 + nS) by omega), if_pos (show 4 + k ≤ j ∧ j < 4 + nS by omega), q, f3]
    · by_cases q2 : 4 + (k + 1) ≤ j ∧ j < 4 + nS
      · rw [if_pos q2, if_pos (by omega)]
      · rw [if_neg q2, if_neg (by omega), f2 j q]
        simp only [fs_u]
        rw [if_neg (fun z => q z.2)]
theorem c_stands (hM : shM S 56) {n b : Nat} {r : Nat → Nat} (hn : n ≤ 7) (hnS : nS ≤ 14) (hb : S[b]? = some (.inl (.int, 7))) (hb2 : b ≠ 60) (hr : ∀ i, i < n → r i < n) (h82 : σ 58 82 = nI nS) (h31 : σ 56 31 = nI n) (h1 : ∀ j, j < n → σ b j = nI (r j)) (h2 : ∀ j, j < n → σ 66 j = nI (owV V nS j)) : fs_Ct g m_X9_stands [.ref 56, .ref b] ((S, fr), σ, τ) (fun x M' => x = none ∧ ∃ σ', M' = ((S, fr), σ', τ) ∧ (∀ c, c ≠ 60 → σ' c = σ c) ∧ ∀ j, σ' 60 j = if 4 ≤ j ∧ j < 4 + nS then sdF (σ 62 j) (fun i => owV V nS (r i)) n else σ 60 j) := by
  refine fs_enterC (by decide) (by simp [fs_ok]) (Nat.le_of_ble_eq_true rfl) (fun d => S_X9_stands_0 ?_)
  show T_X9_stands_0 g d _ [.ref 56, .ref b, .null, .null] [] _
  simp only [T_X9_stands_0, fi_const, fi_iload, fi_aload, fi_istore, fi_astore, fi_iinc, fi_bin, fi_div, fi_un, fi_dup, fi_dup2, fi_pop, fi_if, fi_cmp, fi_getf, fi_putf, fi_putr, fi_ald, fi_ast, fi_alen, fi_iret, fi_zret, fi_vret, fi_cut, fi_no, fi_s0, fi_s1, fi_s2, fi_s3, fi_s4, fi_v0, fi_v1, fi_v2, fi_v3, fi_v4, fi_v5, fi_n0, fi_n1, fi_n2, fi_mm, fi_stat, fi_alds, fi_tsw, List.getElem?_cons_zero, List.getElem?_cons_succ, List.set_cons_zero, List.set_cons_succ, List.length_cons, List.length_nil, Option.toList_some, Option.toList_none, List.cons_append, List.nil_append, Value.category, true_and, k_0, k_1, k_2, k_3, k_4, false_implies, true_implies, reduceCtorEq]
  exact l_stands hM hn hnS hb hb2 hr nS 0 σ .null (by omega) h82 h31 h1 h2
end PS7
