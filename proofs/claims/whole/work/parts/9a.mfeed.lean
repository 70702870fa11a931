/-! ===== feed of the reference ===== -/
section PRc
variable {g : fs_G} {d : Nat} {S : List fs_Sh} {fr : Bool} {σ : Nat → Nat → Int32} {τ : Nat → Nat → Int64} {V : Vt} {nL nA nS kp nb : Nat}
theorem nI_m4 : ∀ k, k < 20 → nI k % 4 = nI (k % 4) := by decide +kernel
theorem sh_8 : ∀ k, k < 4 → (24 : Int32) - 8 * nI k = nI (24 - 8 * k) := by decide +kernel
theorem l_feed24 (hM : shM S 56) {a b c f e : Int32} (hb : nb + 20 ≤ 900) (σ0 : Nat → Nat → Int32) (h2 : σ0 56 2 = nI nb) : ∀ n k σ z, k + n = 20 → (∀ x, x ≠ 57 → σ x = σ0 x) → (∀ j, σ 57 j = if nb ≤ j ∧ j < nb + k then by8 (sl5 a b c f e ((j - nb) / 4)) ((j - nb) % 4) else σ0 57 j) → fs_R g m_X9_feed d (0, 0) 24 [.ref 56, .int a, .int b, .int c, .int f, .int e, .int (nI k), z] [] ((S, fr), σ, τ) (fun r M' => r = some (.int (nI (nb + 20))) ∧ ∃ σ', M' = ((S, fr), fs_u σ' 56 2 (nI (nb + 20)), τ) ∧ (∀ x, x ≠ 57 → σ' x = σ0 x) ∧ ∀ j, σ' 57 j = if nb ≤ j ∧ j < nb + 20 then by8 (sl5 a b c f e ((j - nb) / 4)) ((j - nb) % 4) else σ0 57 j)
  | 0, k, σ, z, hk, h1, h57 => by
    have e2 : σ 56 2 = nI nb := by rw [h1 56 (by decide)]; exact h2
    have ea : nI nb + 20 = nI (nb + 20) := nI_add nb 20
    have eu : fs_u σ 56 2 (nI (nb + 20)) 56 2 = nI (nb + 20) := u_eq ..
    refine S_X9_feed_24 ?_
    simp only [T_X9_feed_24, fi_const, fi_iload, fi_aload, fi_istore, fi_astore, fi_iinc, fi_bin, fi_div, fi_un, fi_dup, fi_dup2, fi_pop, fi_if, fi_cmp, fi_getf, fi_putf, fi_putr, fi_ald, fi_ast, fi_alen, fi_iret, fi_zret, fi_vret, fi_cut, fi_no, fi_s0, fi_s1, fi_s2, fi_s3, fi_s4, fi_v0, fi_v1, fi_v2, fi_v3, fi_v4, fi_v5, fi_n0, fi_n1, fi_n2, fi_mm, fi_stat, fi_alds, fi_tsw, List.getElem?_cons_zero, List.getElem?_cons_succ, List.set_cons_zero, List.set_cons_succ, List.length_cons, List.length_nil, Option.toList_some, Option.toList_none, List.cons_append, List.nil_append, Value.category, true_and, k_0, k_1, k_2, k_3, k_4, false_implies, true_implies, reduceCtorEq, hM.1, e2, ea, eu]
    refine pk_le 20 k (fun _ => ?_) (fun z => by omega)
    have : k = 20 := by omega
    subst this
    exact ⟨σ, rfl, h1, h57⟩
  | n + 1, k, σ, z, hk, h1, h57 => by
    have e2 : σ 56 2 = nI nb := by rw [h1 56 (by decide)]; exact h2
    have go : ∀ v, v = sl5 a b c f e (k / 4) → fs_R g m_X9_feed d (0, 0) 77 [.ref 56, .int a, .int b, .int c, .int f, .int e, .int (nI k), z] [.int v] ((S, fr), σ, τ) (fun r M' => r = some (.int (nI (nb + 20))) ∧ ∃ σ', M' = ((S, fr), fs_u σ' 56 2 (nI (nb + 20)), τ) ∧ (∀ x, x ≠ 57 → σ' x = σ0 x) ∧ ∀ j, σ' 57 j = if nb ≤ j ∧ j < nb + 20 then by8 (sl5 a b c f e ((j - nb) / 4)) ((j - nb) % 4) else σ0 57 j) := by
      intro v hv
      have i9 : vp_in (nI (nb + k)) 900 := vp_in_nI (by omega) (by decide)
      refine S_X9_feed_77 ?_
      simp only [T_X9_feed_77, fi_const, fi_iload, fi_aload, fi_istore, fi_astore, fi_iinc, fi_bin, fi_div, fi_un, fi_dup, fi_dup2, fi_pop, fi_if, fi_cmp, fi_getf, fi_putf, fi_putr, fi_ald, fi_ast, fi_alen, fi_iret, fi_zret, fi_vret, fi_cut, fi_no, fi_s0, fi_s1, fi_s2, fi_s3, fi_s4, fi_v0, fi_v1, fi_v2, fi_v3, fi_v4, fi_v5, fi_n0, fi_n1, fi_n2, fi_mm, fi_stat, fi_alds, fi_tsw, List.getElem?_cons_zero, List.getElem?_cons_succ, List.set_cons_zero, List.set_cons_succ, List.length_cons, List.length_nil, Option.toList_some, Option.toList_none, List.cons_append, List.nil_append, Value.category, true_and, k_0, k_1, k_2, k_3, k_4, false_implies, true_implies, reduceCtorEq, hM.1, e2, hM.2.1, show 56 + 1 = 57 from rfl, nI_add, nI_m4 k (by omega), sh_8 (k % 4) (Nat.mod_lt _ (by decide)), i9, nI_clamp (show nb + k < 2 ^ 31 by omega), nar_i, nI_1]
      refine ⟨by decide, ?_⟩
      refine l_feed24 hM hb σ0 h2 n (k + 1) _ (.int v) (by omega) (fun x hx => by rw [fs_u_ne hx]; exact h1 x hx) (fun j => ?_)
      simp only [fs_u]
      by_cases w : j = nb + k
      · rw [if_pos ⟨trivial, w⟩, if_pos (by omega), show j - nb = k by omega, ← hv]; rfl
      · rw [if_neg (fun z => w z.2), h57 j]
        by_cases u : nb ≤ j ∧ j < nb + k
        · rw [if_pos u, if_pos (by omega)]
        · rw [if_neg u, if_neg (by omega)]
    refine S_X9_feed_24 ?_
    simp only [T_X9_feed_24, fi_const, fi_iload, fi_aload, fi_istore, fi_astore, fi_iinc, fi_bin, fi_div, fi_un, fi_dup, fi_dup2, fi_pop, fi_if, fi_cmp, fi_getf, fi_putf, fi_putr, fi_ald, fi_ast, fi_alen, fi_iret, fi_zret, fi_vret, fi_cut, fi_no, fi_s0, fi_s1, fi_s2, fi_s3, fi_s4, fi_v0, fi_v1, fi_v2, fi_v3, fi_v4, fi_v5, fi_n0, fi_n1, fi_n2, fi_mm, fi_stat, fi_alds, fi_tsw, List.getElem?_cons_zero, List.getElem?_cons_succ, List.set_cons_zero, List.set_cons_succ, List.length_cons, List.length_nil, Option.toList_some, Option.toList_none, List.cons_append, List.nil_append, Value.category, true_and, k_0, k_1, k_2, k_3, k_4, false_implies, true_implies, reduceCtorEq, hM.1]
    refine pk_le 20 k (fun z => by omega) (fun _ => pk_le 4 k (fun w1 => pk_le 8 k (fun w2 => pk_le 12 k (fun w3 => pk_le 16 k (fun w4 => ?_) (fun w4 => ?_)) (fun w3 => ?_)) (fun w2 => ?_)) (fun w1 => ?_))
    · exact go e (by rw [show k / 4 = 4 by omega]; rfl)
    · exact go f (by rw [show k / 4 = 3 by omega]; rfl)
    · exact go c (by rw [show k / 4 = 2 by omega]; rfl)
    · exact go b (by rw [show k / 4 = 1 by omega]; rfl)
    · exact go a (by rw [show k / 4 = 0 by omega]; rfl)
theorem n_feed_3 (hX : shX S) (hV : okV V nL nA nS kp nb) {a b c f e : Int32} (hb : ¬ nb + 20 ≤ 900) : askM g S fr τ V kp nb m_X9_feed [.ref 56, .int a, .int b, .int c, .int f, .int e] (-3) 0 := by
  intro σ h
  have hM := hX.m
  have h1 := h.th 0
  have h9 := hV.2.2.2.2.2.2.1
  have e2 : fs_u σ 56 0 0 56 2 = nI nb := by rw [h1.2.2.2.2.1]; exact hV.2.2.2.2.2.1
  have ea : nI nb + 20 = nI (nb + 20) := nI_add nb 20
  refine fs_enterC (by decide) (by simp [fs_ok]) (Nat.le_of_ble_eq_true rfl) (fun d => S_X9_feed_0 ?_)
  show T_X9_feed_0 g d _ [.ref 56, .int a, .int b, .int c, .int f, .int e, .null, .null] [] _
  simp only [T_X9_feed_0, fi_const, fi_iload, fi_aload, fi_istore, fi_astore, fi_iinc, fi_bin, fi_div, fi_un, fi_dup, fi_dup2, fi_pop, fi_if, fi_cmp, fi_getf, fi_putf, fi_putr, fi_ald, fi_ast, fi_alen, fi_iret, fi_zret, fi_vret, fi_cut, fi_no, fi_s0, fi_s1, fi_s2, fi_s3, fi_s4, fi_v0, fi_v1, fi_v2, fi_v3, fi_v4, fi_v5, fi_n0, fi_n1, fi_n2, fi_mm, fi_stat, fi_alds, fi_tsw, List.getElem?_cons_zero, List.getElem?_cons_succ, List.set_cons_zero, List.set_cons_succ, List.length_cons, List.length_nil, Option.toList_some, Option.toList_none, List.cons_append, List.nil_append, Value.category, true_and, k_0, k_1, k_2, k_3, k_4, false_implies, true_implies, reduceCtorEq]
  simp only [fi_const, fi_iload, fi_aload, fi_istore, fi_astore, fi_iinc, fi_bin, fi_div, fi_un, fi_dup, fi_dup2, fi_pop, fi_if, fi_cmp, fi_getf, fi_putf, fi_putr, fi_ald, fi_ast, fi_alen, fi_iret, fi_zret, fi_vret, fi_cut, fi_no, fi_s0, fi_s1, fi_s2, fi_s3, fi_s4, fi_v0, fi_v1, fi_v2, fi_v3, fi_v4, fi_v5, fi_n0, fi_n1, fi_n2, fi_mm, fi_stat, fi_alds, fi_tsw, List.getElem?_cons_zero, List.getElem?_cons_succ, List.set_cons_zero, List.set_cons_succ, List.length_cons, List.length_nil, Option.toList_some, Option.toList_none, List.cons_append, List.nil_append, Value.category, true_and, k_0, k_1, k_2, k_3, k_4, false_implies, true_implies, reduceCtorEq, hM.1, e2, ea]
  exact pk_le (nb + 20) 900 (fun z => absurd z hb) (fun _ => ⟨_, rfl, h1, th_lo _, u_eq ..⟩)
theorem n_feed (hX : shX S) (hV : okV V nL nA nS kp nb) {a b c f e : Int32} (hb : nb + 20 ≤ 900) : chgN g S fr τ V kp nb m_X9_feed [.ref 56, .int a, .int b, .int c, .int f, .int e] (nI (nb + 20)) (fdV V nb a b c f e) kp (nb + 20) := by
  intro σ h
  have hM := hX.m
  have h1 := h.th 0
  have e2 : fs_u σ 56 0 0 56 2 = nI nb := by rw [h1.2.2.2.2.1]; exact hV.2.2.2.2.2.1
  have ea : nI nb + 20 = nI (nb + 20) := nI_add nb 20
  refine fs_enterC (by decide) (by simp [fs_ok]) (Nat.le_of_ble_eq_true rfl) (fun d => S_X9_feed_0 ?_)
  show T_X9_feed_0 g d _ [.ref 56, .int a, .int b, .int c, .int f, .int e, .null, .null] [] _
  simp only [T_X9_feed_0, fi_const, fi_iload, fi_aload, fi_istore, fi_astore, fi_iinc, fi_bin, fi_div, fi_un, fi_dup, fi_dup2, fi_pop, fi_if, fi_cmp, fi_getf, fi_putf, fi_putr, fi_ald, fi_ast, fi_alen, fi_iret, fi_zret, fi_vret, fi_cut, fi_no, fi_s0, fi_s1, fi_s2, fi_s3, fi_s4, fi_v0, fi_v1, fi_v2, fi_v3, fi_v4, fi_v5, fi_n0, fi_n1, fi_n2, fi_mm, fi_stat, fi_alds, fi_tsw, List.getElem?_cons_zero, List.getElem?_cons_succ, List.set_cons_zero, List.set_cons_succ, List.length_cons, List.length_nil, Option.toList_some, Option.toList_none, List.cons_append, List.nil_append, Value.category, true_and, k_0, k_1, k_2, k_3, k_4, false_implies, true_implies, reduceCtorEq]
  simp only [fi_const, fi_iload, fi_aload, fi_istore, fi_astore, fi_iinc, fi_bin, fi_div, fi_un, fi_dup, fi_dup2, fi_pop, fi_if, fi_cmp, fi_getf, fi_putf, fi_putr, fi_ald, fi_ast, fi_alen, fi_iret, fi_zret, fi_vret, fi_cut, fi_no, fi_s0, fi_s1, fi_s2, fi_s3, fi_s4, fi_v0, fi_v1, fi_v2, fi_v3, fi_v4, fi_v5, fi_n0, fi_n1, fi_n2, fi_mm, fi_stat, fi_alds, fi_tsw, List.getElem?_cons_zero, List.getElem?_cons_succ, List.set_cons_zero, List.set_cons_succ, List.length_cons, List.length_nil, Option.toList_some, Option.toList_none, List.cons_append, List.nil_append, Value.category, true_and, k_0, k_1, k_2, k_3, k_4, false_implies, true_implies, reduceCtorEq, hM.1, e2, ea]
  refine pk_le (nb + 20) 900 (fun _ => ?_) (fun z => by omega)
  refine fs_R_mono (l_feed24 (a := a) (b := b) (c := c) (f := f) (e := e) hM hb (fs_u σ 56 0 0) e2 20 0 _ .null rfl (fun _ _ => rfl) (fun j => by rw [if_neg (by omega)])) ?_
  rintro r M' ⟨rfl, σ', rfl, f1, f2⟩
  have hne : ∀ x, x ≠ 56 → fs_u σ' 56 2 (nI (nb + 20)) x = σ' x := fun x hx => fs_u_ne hx
  refine ⟨rfl, _, rfl, ⟨?_, ?_, fun x hx => ?_, fun i hi => ?_, ?_, ?_, ?_⟩, fun x hx => ?_, ?_⟩
  · rw [hne 58 (by decide), f1 58 (by decide), fdV_ne _ _ _ _ _ _ _ (by decide) (by decide)]; exact h1.1
  · rw [hne 60 (by decide), f1 60 (by decide), fdV_ne _ _ _ _ _ _ _ (by decide) (by decide)]; exact h1.2.1
  · rw [hne 63 (by decide), f1 63 (by decide), fdV_ne _ _ _ _ _ _ _ (by decide) (by decide)]; exact h1.2.2.1 x hx
  · rw [hne 57 (by decide), f2 i]
    unfold fdV
    by_cases w : nb ≤ i
    · rw [if_pos ⟨w, hi⟩, if_pos ⟨rfl, w, hi⟩]
    · rw [if_neg (by omega), if_neg (by omega), if_neg (by omega)]; exact h1.2.2.2.1 i (by omega)
  · rw [u_eq]; simp [fdV]
  · simp only [fs_u]; rw [if_neg (by decide), f1 56 (by decide)]
    simp only [fdV]; rw [if_neg (by omega), if_neg (by omega)]
    exact h1.2.2.2.2.2.1
  · simp only [fs_u]; rw [if_neg (by decide), f1 56 (by decide)]
    simp only [fdV]; rw [if_neg (by omega), if_neg (by omega)]
    exact h1.2.2.2.2.2.2
  · rw [hne x (by omega), f1 x (by omega), fs_u_ne (by omega)]
  · simp only [fs_u]; rw [if_neg (by decide), f1 56 (by decide)]; simp [fs_u]
end PRc
