/-! ===== changes: the value after a change; refresh ===== -/
/-- V after a change: the row now is kept, then N stands -/
def chV (V : Vt) (kp : Nat) (N : Nat → Int32) : Vt := fun a b => if a = 4 then N b else if a = 7 then keR (V 7) (V 4) kp b else if a = 0 ∧ b = 9 then nI (k0 kp + 1) else V a b
theorem chV_2 (V : Vt) (kp : Nat) (N : Nat → Int32) : chV V kp N 2 = V 2 := by funext b; simp [chV]
theorem chV_1 (V : Vt) (kp : Nat) (N : Nat → Int32) : chV V kp N 1 = V 1 := by funext b; simp [chV]
theorem chV_4 (V : Vt) (kp : Nat) (N : Nat → Int32) : chV V kp N 4 = N := by funext b; simp [chV]
theorem chV_7 (V : Vt) (kp : Nat) (N : Nat → Int32) : chV V kp N 7 = keR (V 7) (V 4) kp := by funext b; simp [chV]
theorem okT_ch {V V' : Vt} {nL nA nS : Nat} (e : V' 2 = V 2) (h : okT V nL nA nS) : okT V' nL nA nS := by
  unfold okT at h ⊢
  simp only [v_lo, v_le, v_ni, v_ca, e] at h ⊢
  exact h
theorem okN_ch {V V' : Vt} {nS : Nat} {N : Nat → Int32} (e : V' 2 = V 2) (h : okN V nS N) : okN V' nS N := by
  unfold okN at h ⊢
  simp only [v_lo, v_ni, v_ca, e] at h ⊢
  exact h
theorem cons_congr {dy dy' lo ni : Nat → Int32} {n : Nat} (h : ∀ k, k < n → dy k = dy' k) (hc : cons dy lo ni n) : cons dy' lo ni n := by
  intro i j e hi hj he e1 e2
  exact hc i j e hi hj he ((h i hi).trans e1) ((h j hj).trans e2)
theorem rested_congr {dy dy' ni ca : Nat → Int32} {n : Nat} (h : ∀ k, k < n → dy k = dy' k) (hc : rested dy ni ca n) : rested dy' ni ca n := by
  intro j hj
  rw [← pnF_congr h (fun _ _ => rfl), ← pnF_congr h (fun _ _ => rfl), ← caF_congr h (fun _ _ => rfl), ← caF_congr h (fun _ _ => rfl)]
  exact hc j hj
theorem okN_congr {V : Vt} {nS : Nat} {N N' : Nat → Int32} (hn : nS ≤ 14) (e : ∀ j, j < 18 → N j = N' j) (h : okN V nS N) : okN V nS N' := by
  obtain ⟨h1, h2, h3, h4, h5, h6, h7⟩ := h
  rw [e 0 (by decide)] at h1
  rw [e 1 (by decide)] at h2
  rw [e 2 (by decide)] at h3
  rw [e 3 (by decide)] at h4
  exact ⟨h1, h2, h3, h4, fun k hk => by rw [← e (4 + k) (by omega)]; exact h5 k hk, cons_congr (fun k hk => e (4 + k) (by omega)) h6, rested_congr (fun k hk => e (4 + k) (by omega)) h7⟩
/-- what is kept stays in its ranges -/
theorem okV_ch {V : Vt} {nL nA nS kp nb : Nat} {N : Nat → Int32} (h : okV V nL nA nS kp nb) (hN : okN V nS N) : okV (chV V kp N) nL nA nS (k0 kp + 1) nb := by
  obtain ⟨hT, h4, h9, hk, hP, h2, hb, hB⟩ := h
  have hn := hT.2.2.2.2.2.1
  have e2 := chV_2 V kp N
  have hk0 := k0_le kp
  refine ⟨okT_ch e2 hT, by rw [chV_4]; exact okN_ch e2 hN, by simp [chV], by omega, fun i hi => ?_, by simp [chV]; exact h2, hb, fun i hi => by rw [chV_1]; exact hB i hi⟩
  rw [chV_7]
  refine okN_ch e2 ?_
  by_cases q : i < k0 kp
  · by_cases q2 : 12 ≤ kp
    · refine okN_congr hn (fun j hj => ?_) (hP (i + 1) (by unfold k0 at q; rw [if_pos q2] at q; omega))
      simp only [fr_, keR, p0]
      rw [if_pos (by omega), if_pos q2]
      exact congrArg _ (by omega)
    · refine okN_congr hn (fun j hj => ?_) (hP i (by unfold k0 at q; rw [if_neg q2] at q; omega))
      simp only [fr_, keR, p0]
      rw [if_pos (by omega), if_neg q2]
  · refine okN_congr hn (fun j hj => ?_) h4
    simp only [fr_, keR]
    rw [if_neg (by omega)]
    exact congrArg _ (by omega)
/-- the shape of the search's cells -/
def shS (S : List fs_Sh) : Prop := S[50]? = some (.inr (3, [none, some (some 51), some (some 2), some (some 14), none, none, some (some 52), some (some 53), some (some 54), some (some 55)])) ∧ S[51]? = some (.inl (.int, 7)) ∧ S[52]? = some (.inl (.int, 7)) ∧ S[53]? = some (.inl (.int, 7)) ∧ S[54]? = some (.inl (.int, 6)) ∧ S[55]? = some (.inl (.int, 128))
/-- the class holds V, but for its table and its search -/
def IC0 (σ : Nat → Nat → Int32) (V : Vt) (nL nA nS kp nb : Nat) : Prop :=
  (σ 2 0 = nI nL ∧ σ 2 4 = nI nA ∧ σ 2 7 = nI nS) ∧
  (∀ l, l < nL → σ 3 l = V 2 l ∧ σ 4 l = V 2 (4 + l) ∧ σ 5 l = V 2 (8 + l)) ∧
  (∀ a, a < nA → σ 6 a = V 2 (12 + a) ∧ σ 7 a = V 2 (18 + a)) ∧
  (∀ k, k < nS → σ 8 k = v_lo V k ∧ σ 9 k = v_le V k ∧ σ 10 k = v_ni V k ∧ σ 11 k = v_ca V k) ∧
  (∀ k, k < 14 → σ 12 k = v_dy V k) ∧ (∀ i, i < 4 → σ 13 i = V 4 i) ∧
  σ 46 0 = nI kp ∧ (∀ b, b < 18 * kp → σ 47 b = V 7 b) ∧
  σ 0 1 = nI nb ∧ (∀ i, i < nb → σ 1 i = (V 1 i).toInt8.toInt32) ∧ σ 0 2 = V 0 18
section PC2
variable {g : fs_G} {d : Nat} {S : List fs_Sh} {fr : Bool} {σ : Nat → Nat → Int32} {τ : Nat → Nat → Int64} {V : Vt} {nL nA nS kp nb : Nat}
/-- a change of the class: V becomes V' -/
def chgC (g : fs_G) (S : List fs_Sh) (fr : Bool) (τ : Nat → Nat → Int64) (V : Vt) (nL nA nS kp nb : Nat) (μ : fs_I) (av : List Value) (x : Int32) (V' : Vt) (kp' : Nat) : Prop := ∀ σ, IC σ V nL nA nS kp nb → fs_Ct g μ av ((S, fr), σ, τ) (fun r M' => r = some (.int x) ∧ ∃ σ', M' = ((S, fr), σ', τ) ∧ IC σ' V' nL nA nS kp' nb ∧ ∀ a, 56 ≤ a → σ' a = σ a)
def chgM (g : fs_G) (S : List fs_Sh) (fr : Bool) (τ : Nat → Nat → Int64) (V : Vt) (kp nb : Nat) (μ : fs_I) (av : List Value) (x : Int32) (V' : Vt) (kp' : Nat) : Prop := ∀ σ, IM σ V kp nb → fs_Ct g μ av ((S, fr), σ, τ) (fun r M' => r = some (.int x) ∧ ∃ σ', M' = ((S, fr), σ', τ) ∧ IM σ' V' kp' nb ∧ (∀ a, a < 56 ∨ 69 ≤ a → σ' a = σ a) ∧ σ' 56 0 = 0)
theorem IC.to0 (h : IC σ V nL nA nS kp nb) : IC0 σ V nL nA nS kp nb := by
  obtain ⟨h1, h2, h3, h4, h5, h6, h7, h8, h9, h10, h11, h12, h13⟩ := h
  exact ⟨h1, h2, h3, h4, h5, h6, h8, h9, h10, h11, h12⟩
theorem IC0.keep {σ' : Nat → Nat → Int32} (h : IC0 σ V nL nA nS kp nb) (hs : ∀ a, a < 56 → ¬ (14 ≤ a ∧ a ≤ 25) → ¬ (48 ≤ a ∧ a ≤ 55) → σ' a = σ a) : IC0 σ' V nL nA nS kp nb := by
  have c : ∀ a, a < 14 → σ' a = σ a := fun a ha => hs a (by omega) (by omega) (by omega)
  unfold IC0 at h ⊢
  rw [c 0 (by omega), c 1 (by omega), c 2 (by omega), c 3 (by omega), c 4 (by omega), c 5 (by omega), c 6 (by omega), c 7 (by omega), c 8 (by omega), c 9 (by omega), c 10 (by omega), c 11 (by omega), c 12 (by omega), c 13 (by omega), hs 46 (by omega) (by omega) (by omega), hs 47 (by omega) (by omega) (by omega)]
  exact h
theorem IC0.to (h : IC0 σ V nL nA nS kp nb) (ht : tab σ 14 2 (σ 12) nS) (hs : srch σ V nA nS) : IC σ V nL nA nS kp nb := by
  obtain ⟨h1, h2, h3, h4, h5, h6, h8, h9, h10, h11, h12⟩ := h
  exact ⟨h1, h2, h3, h4, h5, h6, ht, h8, h9, h10, h11, h12, hs⟩
theorem c_refresh (hX : shX S) (hS : shS S) (hT : okT V nL nA nS) (hN : okN V nS (V 4)) (h : IC0 σ V nL nA nS kp nb) : fs_Ct g m_X8_refresh [.ref 0] ((S, fr), σ, τ) (fun r M' => r = none ∧ ∃ σ', M' = ((S, fr), σ', τ) ∧ IC σ' V nL nA nS kp nb ∧ ∀ a, 56 ≤ a → σ' a = σ a) := by
  have hn := hT.2.2.2.2.2.1
  have hD := hX.2.2.2.1
  have hP := hX.2.2.1
  have h4 := h.2.2.2.1
  have h5 := h.2.2.2.2.1
  have h01 : b01 (v_ni V) nS := hT.2.2.2.2.2.2.2.1
  refine fs_enterC (by decide) (by simp [fs_ok]) (Nat.le_of_ble_eq_true rfl) (fun d => S_X8_refresh_0 ?_)
  show T_X8_refresh_0 g d _ [.ref 0] [] _
  simp only [T_X8_refresh_0, fi_const, fi_iload, fi_aload, fi_istore, fi_astore, fi_iinc, fi_bin, fi_div, fi_un, fi_dup, fi_dup2, fi_pop, fi_if, fi_cmp, fi_getf, fi_putf, fi_putr, fi_ald, fi_ast, fi_alen, fi_iret, fi_zret, fi_vret, fi_cut, fi_no, fi_s0, fi_s1, fi_s2, fi_s3, fi_s4, fi_v0, fi_v1, fi_v2, fi_v3, fi_v4, fi_v5, fi_n0, fi_n1, fi_n2, fi_mm, fi_stat, fi_alds, fi_tsw, List.getElem?_cons_zero, List.getElem?_cons_succ, List.set_cons_zero, List.set_cons_succ, List.length_cons, List.length_nil, Option.toList_some, Option.toList_none, List.cons_append, List.nil_append, Value.category, true_and, k_0, k_1, k_2, k_3, k_4, false_implies, true_implies, reduceCtorEq]
  simp only [fi_const, fi_iload, fi_aload, fi_istore, fi_astore, fi_iinc, fi_bin, fi_div, fi_un, fi_dup, fi_dup2, fi_pop, fi_if, fi_cmp, fi_getf, fi_putf, fi_putr, fi_ald, fi_ast, fi_alen, fi_iret, fi_zret, fi_vret, fi_cut, fi_no, fi_s0, fi_s1, fi_s2, fi_s3, fi_s4, fi_v0, fi_v1, fi_v2, fi_v3, fi_v4, fi_v5, fi_n0, fi_n1, fi_n2, fi_mm, fi_stat, fi_alds, fi_tsw, List.getElem?_cons_zero, List.getElem?_cons_succ, List.set_cons_zero, List.set_cons_succ, List.length_cons, List.length_nil, Option.toList_some, Option.toList_none, List.cons_append, List.nil_append, Value.category, true_and, k_0, k_1, k_2, k_3, k_4, false_implies, true_implies, reduceCtorEq, hX.1]
  refine ⟨by decide, ⟨_, hD.1⟩, (c_build hD hP (by decide) hn h.1.2.2 (fun j hj => by rw [show 2 + 8 = 10 from rfl, (h4 j hj).2.2.1]; exact h01 j hj)).mono ?_⟩
  rintro r M' ⟨rfl, σ1, rfl, hs1, hsh⟩
  have c : ∀ a, ¬ (14 < a ∧ a < 20) → σ1 a = σ a := fun a ha => hs1 a ha
  simp only [fi_const, fi_iload, fi_aload, fi_istore, fi_astore, fi_iinc, fi_bin, fi_div, fi_un, fi_dup, fi_dup2, fi_pop, fi_if, fi_cmp, fi_getf, fi_putf, fi_putr, fi_ald, fi_ast, fi_alen, fi_iret, fi_zret, fi_vret, fi_cut, fi_no, fi_s0, fi_s1, fi_s2, fi_s3, fi_s4, fi_v0, fi_v1, fi_v2, fi_v3, fi_v4, fi_v5, fi_n0, fi_n1, fi_n2, fi_mm, fi_stat, fi_alds, fi_tsw, List.getElem?_cons_zero, List.getElem?_cons_succ, List.set_cons_zero, List.set_cons_succ, List.length_cons, List.length_nil, Option.toList_some, Option.toList_none, List.cons_append, List.nil_append, Value.category, true_and, k_0, k_1, k_2, k_3, k_4, false_implies, true_implies, reduceCtorEq, hX.1, hS.1]
  have hc3 : fs_Ct g m_X3_forgetResult [.ref 50] ((S, fr), σ1, τ) (fun r M' => r = none ∧ ((S, fr), fs_u σ1 50 4 0, τ) = M') := by
    refine fs_enterC (by decide) (by simp [fs_ok]) (Nat.le_of_ble_eq_true rfl) (fun d => S_X3_forgetResult_0 ?_)
    show T_X3_forgetResult_0 g d _ [.ref 50] [] _
    simp only [T_X3_forgetResult_0, fi_const, fi_iload, fi_aload, fi_istore, fi_astore, fi_iinc, fi_bin, fi_div, fi_un, fi_dup, fi_dup2, fi_pop, fi_if, fi_cmp, fi_getf, fi_putf, fi_putr, fi_ald, fi_ast, fi_alen, fi_iret, fi_zret, fi_vret, fi_cut, fi_no, fi_s0, fi_s1, fi_s2, fi_s3, fi_s4, fi_v0, fi_v1, fi_v2, fi_v3, fi_v4, fi_v5, fi_n0, fi_n1, fi_n2, fi_mm, fi_stat, fi_alds, fi_tsw, List.getElem?_cons_zero, List.getElem?_cons_succ, List.set_cons_zero, List.set_cons_succ, List.length_cons, List.length_nil, Option.toList_some, Option.toList_none, List.cons_append, List.nil_append, Value.category, true_and, k_0, k_1, k_2, k_3, k_4, false_implies, true_implies, reduceCtorEq]
    simp only [fi_const, fi_iload, fi_aload, fi_istore, fi_astore, fi_iinc, fi_bin, fi_div, fi_un, fi_dup, fi_dup2, fi_pop, fi_if, fi_cmp, fi_getf, fi_putf, fi_putr, fi_ald, fi_ast, fi_alen, fi_iret, fi_zret, fi_vret, fi_cut, fi_no, fi_s0, fi_s1, fi_s2, fi_s3, fi_s4, fi_v0, fi_v1, fi_v2, fi_v3, fi_v4, fi_v5, fi_n0, fi_n1, fi_n2, fi_mm, fi_stat, fi_alds, fi_tsw, List.getElem?_cons_zero, List.getElem?_cons_succ, List.set_cons_zero, List.set_cons_succ, List.length_cons, List.length_nil, Option.toList_some, Option.toList_none, List.cons_append, List.nil_append, Value.category, true_and, k_0, k_1, k_2, k_3, k_4, false_implies, true_implies, reduceCtorEq, hS.1]
    simp
  refine ⟨by decide, ⟨_, rfl⟩, hc3.mono ?_⟩
  rintro r M' ⟨rfl, rfl⟩
  simp only [fi_const, fi_iload, fi_aload, fi_istore, fi_astore, fi_iinc, fi_bin, fi_div, fi_un, fi_dup, fi_dup2, fi_pop, fi_if, fi_cmp, fi_getf, fi_putf, fi_putr, fi_ald, fi_ast, fi_alen, fi_iret, fi_zret, fi_vret, fi_cut, fi_no, fi_s0, fi_s1, fi_s2, fi_s3, fi_s4, fi_v0, fi_v1, fi_v2, fi_v3, fi_v4, fi_v5, fi_n0, fi_n1, fi_n2, fi_mm, fi_stat, fi_alds, fi_tsw, List.getElem?_cons_zero, List.getElem?_cons_succ, List.set_cons_zero, List.set_cons_succ, List.length_cons, List.length_nil, Option.toList_some, Option.toList_none, List.cons_append, List.nil_append, Value.category, true_and, k_0, k_1, k_2, k_3, k_4, false_implies, true_implies, reduceCtorEq]
  refine ⟨_, rfl, ?_, fun a ha => by rw [fs_u_ne (by omega), c a (by omega)]⟩
  refine (h.keep (fun a h1 h2 h3 => by rw [fs_u_ne (by omega), c a (by omega)])).to ?_ (Or.inl (u_eq ..))
  have hco : cons (σ 12) (σ1 (2 + 6)) (σ1 (2 + 8)) nS := by
    rw [show 2 + 6 = 8 from rfl, show 2 + 8 = 10 from rfl, c 8 (by omega), c 10 (by omega)]
    intro i j f hi hj hf e1 e2
    rw [h5 i (by omega)] at e1
    rw [h5 j (by omega)] at e2
    rw [(h4 i hi).1, (h4 j hj).1, (h4 i hi).2.2.1, (h4 j hj).2.2.1]
    exact hN.2.2.2.2.2.1 i j f hi hj hf e1 e2
  have ht := hsh.tab hco
  unfold tab at ht ⊢
  rw [fs_u_ne (by decide), fs_u_ne (by decide), fs_u_ne (by decide), fs_u_ne (by decide), fs_u_ne (by decide), fs_u_ne (by decide), fs_u_ne (by decide), fs_u_ne (by decide), fs_u_ne (by decide), fs_u_ne (by decide), c 12 (by omega)]
  exact ht
end PC2
