/-! ===== exchange: days changed, and the reference's own loop ===== -/
def exN (N : Nat → Int32) (nS : Nat) (a b : Int32) : Nat → Int32 := fun j => if 4 ≤ j ∧ j < 4 + nS then exD (N j) a b else N j
theorem fr_ex (N : Nat → Int32) (nS : Nat) (a b : Int32) {k : Nat} (hk : k < nS) : fr_ (exN N nS a b) 4 k = exD (fr_ N 4 k) a b := by
  simp only [fr_, exN]
  rw [if_pos ⟨by omega, by omega⟩]
theorem exD_inv (x a b : Int32) : exD (exD x a b) a b = x := by
  unfold exD
  by_cases h1 : x = a
  · rw [if_pos h1]
    by_cases h2 : b = a
    · rw [if_pos h2, h2, h1]
    · rw [if_neg h2, if_pos rfl, h1]
  · rw [if_neg h1]
    by_cases h2 : x = b
    · rw [if_pos h2, if_pos rfl, h2]
    · rw [if_neg h2, if_neg h1, if_neg h2]
theorem exN_inv (N : Nat → Int32) (nS : Nat) (a b : Int32) : exN (exN N nS a b) nS a b = N := by
  funext j
  simp only [exN]
  by_cases h : 4 ≤ j ∧ j < 4 + nS
  · rw [if_pos h, if_pos h, exD_inv]
  · rw [if_neg h, if_neg h]
theorem exD_day {x : Int32} {a b : Nat} (ha : a < 12) (hb : b < 12) {e : Nat} (he : e < 12) (h : exD x (nI a) (nI b) = nI e) : ∃ f, f < 12 ∧ x = nI f ∧ ∀ y, exD y (nI a) (nI b) = nI e → y = nI f := by
  have hx : x = exD (nI e) (nI a) (nI b) := by rw [← h, exD_inv]
  have hy : ∀ y, exD y (nI a) (nI b) = nI e → y = exD (nI e) (nI a) (nI b) := fun y w => by rw [← w, exD_inv]
  unfold exD at hx hy
  split at hx
  · rename_i q; simp only [if_pos q] at hy; exact ⟨b, hb, hx, hy⟩
  · rename_i q
    simp only [if_neg q] at hy
    split at hx
    · rename_i q2; simp only [if_pos q2] at hy; exact ⟨a, ha, hx, hy⟩
    · rename_i q2; simp only [if_neg q2] at hy; exact ⟨e, he, hx, hy⟩
theorem cons_ex {N lo ni : Nat → Int32} {n a b : Nat} (ha : a < 12) (hb : b < 12) (h : cons (fr_ N 4) lo ni n) : cons (fr_ (exN N n (nI a) (nI b)) 4) lo ni n := by
  intro i j e hi hj he e1 e2
  rw [fr_ex _ _ _ _ hi] at e1
  rw [fr_ex _ _ _ _ hj] at e2
  obtain ⟨f, hf, x1, hy⟩ := exD_day ha hb he e1
  exact h i j f hi hj hf x1 (hy _ e2)
section PD2
variable {g : fs_G} {d : Nat} {S : List fs_Sh} {fr : Bool} {σ : Nat → Nat → Int32} {τ : Nat → Nat → Int64} {V : Vt} {nL nA nS kp nb : Nat}
theorem okN_ex (hT : okT V nL nA nS) (hN : okN V nS (V 4)) {a b : Nat} (ha : a < 12) (hb : b < 12) (hr : rested (fr_ (exN (V 4) nS (nI a) (nI b)) 4) (v_ni V) (v_ca V) nS) : okN V nS (exN (V 4) nS (nI a) (nI b)) := by
  obtain ⟨h1, h2, h3, h4, h5, h6, h7⟩ := hN
  have c : ∀ j, j < 4 → exN (V 4) nS (nI a) (nI b) j = V 4 j := fun j hj => by unfold exN; rw [if_neg (by omega)]
  unfold okN
  rw [c 0 (by decide), c 1 (by decide), c 2 (by decide), c 3 (by decide)]
  refine ⟨h1, h2, h3, h4, fun k hk => ?_, cons_ex ha hb h6, hr⟩
  unfold exN
  by_cases q : 4 ≤ 4 + k ∧ 4 + k < 4 + nS
  · rw [if_pos q]
    have hk' : k < nS := by omega
    unfold exD
    split
    · exact Or.inr ⟨hk', b, hb, rfl⟩
    · split
      · exact Or.inr ⟨hk', a, ha, rfl⟩
      · exact h5 k hk
  · rw [if_neg q]; exact h5 k hk
theorem l_exchM (hM : shM S 56) (hn : nS ≤ 14) (x y : Int32) : ∀ n k σ z, k + n = nS → σ 58 82 = nI nS → fs_R g m_X9_exchanges d (0, 0) 2 [.ref 56, .int x, .int y, .int (nI k), z] [] ((S, fr), σ, τ) (fun r M' => r = none ∧ ∃ σ', M' = ((S, fr), σ', τ) ∧ (∀ a, a ≠ 60 → σ' a = σ a) ∧ ∀ j, σ' 60 j = if 4 + k ≤ j ∧ j < 4 + nS then exD (σ 60 j) x y else σ 60 j)
  | 0, k, σ, z, hk, h82 => by
    refine S_X9_exchanges_2 ?_
    simp only [T_X9_exchanges_2, fi_const, fi_iload, fi_aload, fi_istore, fi_astore, fi_iinc, fi_bin, fi_div, fi_un, fi_dup, fi_dup2, fi_pop, fi_if, fi_cmp, fi_getf, fi_putf, fi_putr, fi_ald, fi_ast, fi_alen, fi_iret, fi_zret, fi_vret, fi_cut, fi_no, fi_s0, fi_s1, fi_s2, fi_s3, fi_s4, fi_v0, fi_v1, fi_v2, fi_v3, fi_v4, fi_v5, fi_n0, fi_n1, fi_n2, fi_mm, fi_stat, fi_alds, fi_tsw, List.getElem?_cons_zero, List.getElem?_cons_succ, List.set_cons_zero, List.set_cons_succ, List.length_cons, List.length_nil, Option.toList_some, Option.toList_none, List.cons_append, List.nil_append, Value.category, true_and, k_0, k_1, k_2, k_3, k_4, false_implies, true_implies, reduceCtorEq, hM.1, hM.2.2.1, k_82, show 56 + 2 = 58 from rfl, h82]
    refine ⟨pk_in 82 83 (by decide), pk_le nS k (fun _ => ?_) (fun z => by omega)⟩
    exact ⟨σ, rfl, fun _ _ => rfl, fun j => by rw [if_neg (by omega)]⟩
  | n + 1, k, σ, z, hk, h82 => by
    have hi : vp_in (nI (4 + k)) 18 := vp_in_nI (by omega) (by decide)
    have fin : ∀ v z', v = exD (σ 60 (4 + k)) x y → fs_R g m_X9_exchanges d (0, 0) 2 [.ref 56, .int x, .int y, .int (nI (k + 1)), z'] [] ((S, fr), fs_u σ 60 (4 + k) v, τ) (fun r M' => r = none ∧ ∃ σ', M' = ((S, fr), σ', τ) ∧ (∀ a, a ≠ 60 → σ' a = σ a) ∧ ∀ j, σ' 60 j = if 4 + k ≤ j ∧ j < 4 + nS then exD (σ 60 j) x y else σ 60 j) := by
      intro v z' hv
      refine fs_R_mono (l_exchM hM hn x y n (k + 1) (fs_u σ 60 (4 + k) v) z' (by omega) (by rw [fs_u_ne (by decide)]; exact h82)) ?_
      rintro r M' ⟨rfl, σ', rfl, hs, s2⟩
      refine ⟨rfl, σ', rfl, fun a h1 => by rw [hs a h1, fs_u_ne h1], fun j => ?_⟩
      rw [s2 j]
      simp only [fs_u]
      by_cases q : j = 4 + k
      · rw [if_neg (show ¬ (4 + (k + 1) ≤ j ∧ j < 4 + nS) by omega), if_pos (show True ∧ j = 4 + k from ⟨trivial, q⟩), if_pos (show 4 + k ≤ j ∧ j < 4 + nS by omega), q, hv]
      · rw [if_neg (show ¬ (True ∧ j = 4 + k) from fun z => q z.2)]
        by_cases q2 : 4 + (k + 1) ≤ j ∧ j < 4 + nS
        · rw [if_pos q2, if_pos (by omega)]
        · rw [if_neg q2, if_neg (by omega)]
    refine S_X9_exchanges_2 ?_
    simp only [T_X9_exchanges_2, fi_const, fi_iload, fi_aload, fi_istore, fi_astore, fi_iinc, fi_bin, fi_div, fi_un, fi_dup, fi_dup2, fi_pop, fi_if, fi_cmp, fi_getf, fi_putf, fi_putr, fi_ald, fi_ast, fi_alen, fi_iret, fi_zret, fi_vret, fi_cut, fi_no, fi_s0, fi_s1, fi_s2, fi_s3, fi_s4, fi_v0, fi_v1, fi_v2, fi_v3, fi_v4, fi_v5, fi_n0, fi_n1, fi_n2, fi_mm, fi_stat, fi_alds, fi_tsw, List.getElem?_cons_zero, List.getElem?_cons_succ, List.set_cons_zero, List.set_cons_succ, List.length_cons, List.length_nil, Option.toList_some, Option.toList_none, List.cons_append, List.nil_append, Value.category, true_and, k_0, k_1, k_2, k_3, k_4, false_implies, true_implies, reduceCtorEq, hM.1, hM.2.2.1, hM.2.2.2.2.1, k_82, show 56 + 2 = 58 from rfl, show 56 + 4 = 60 from rfl, h82, li_4, nI_clamp (show 4 + k < 2 ^ 31 by omega), hi, nI_1]
    refine ⟨pk_in 82 83 (by decide), pk_le nS k (fun z => by omega) (fun _ => ⟨fun q => ?_, fun q => ⟨fun q2 => ?_, fun q2 => ?_⟩⟩)⟩
    · exact fin _ _ (by unfold exD; rw [if_pos q]; rfl)
    · exact fin _ _ (by unfold exD; rw [if_neg q, if_pos q2]; rfl)
    · exact fin _ _ (by unfold exD; rw [if_neg q, if_neg q2]; rfl)
theorem c_exchM (hM : shM S 56) (hn : nS ≤ 14) (h82 : σ 58 82 = nI nS) (x y : Int32) : fs_Ct g m_X9_exchanges [.ref 56, .int x, .int y] ((S, fr), σ, τ) (fun r M' => r = none ∧ ∃ σ', M' = ((S, fr), σ', τ) ∧ (∀ a, a ≠ 60 → σ' a = σ a) ∧ σ' 60 = exN (σ 60) nS x y) := by
  refine fs_enterC (by decide) (by simp [fs_ok]) (Nat.le_of_ble_eq_true rfl) (fun d => S_X9_exchanges_0 ?_)
  show T_X9_exchanges_0 g d _ [.ref 56, .int x, .int y, .null, .null] [] _
  simp only [T_X9_exchanges_0, fi_const, fi_iload, fi_aload, fi_istore, fi_astore, fi_iinc, fi_bin, fi_div, fi_un, fi_dup, fi_dup2, fi_pop, fi_if, fi_cmp, fi_getf, fi_putf, fi_putr, fi_ald, fi_ast, fi_alen, fi_iret, fi_zret, fi_vret, fi_cut, fi_no, fi_s0, fi_s1, fi_s2, fi_s3, fi_s4, fi_v0, fi_v1, fi_v2, fi_v3, fi_v4, fi_v5, fi_n0, fi_n1, fi_n2, fi_mm, fi_stat, fi_alds, fi_tsw, List.getElem?_cons_zero, List.getElem?_cons_succ, List.set_cons_zero, List.set_cons_succ, List.length_cons, List.length_nil, Option.toList_some, Option.toList_none, List.cons_append, List.nil_append, Value.category, true_and, k_0, k_1, k_2, k_3, k_4, false_implies, true_implies, reduceCtorEq]
  refine fs_R_mono (l_exchM hM hn x y nS 0 σ _ (by omega) h82) ?_
  rintro r M' ⟨rfl, σ', rfl, hs, s2⟩
  exact ⟨rfl, σ', rfl, hs, funext fun j => s2 j⟩
end PD2
