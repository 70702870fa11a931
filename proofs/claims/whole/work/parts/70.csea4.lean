/-! ===== the search of the class: days, held counts, fixed cost, the least cost ===== -/
section PS5
variable {g : fs_G} {d : Nat} {S : List fs_Sh} {fr : Bool} {σ σ0 : Nat → Nat → Int32} {τ : Nat → Nat → Int64} {V : Vt} {nL nA nS kp nb : Nat}
theorem sc_oc (hn : nS ≤ 14) (e : Nat) : scF (v_dy V) e nS = 0 ↔ ocV V nS e = false := by
  rw [scF_an hn]
  unfold ocV
  cases anF (v_dy V) e nS 0 <;> simp
theorem l_listDays (hX : shX S) (hS : shS S) (hT : okT V nL nA nS) (h0 : IC σ0 V nL nA nS kp nb) : ∀ m k σ, k + m = 12 → (∀ a, a < 50 → σ a = σ0 a) → σ 50 0 = nI (ct (ocV V nS) k) → ct (ocV V nS) k ≤ 7 → (∀ e, e < k → ocV V nS e = true → σ 52 (ct (ocV V nS) e) = nI e) →
    fs_R g m_X3_listDays d (0, 0) 7 [.ref 50, .int (nI k)] [] ((S, fr), σ, τ) (fun x M' => x = some (.int (bI (decide (nDV V nS ≤ 7)))) ∧ ∃ σ', M' = ((S, fr), σ', τ) ∧ (∀ a b, ¬ (a = 50 ∧ b = 0) → a ≠ 52 → σ' a b = σ a b) ∧ (nDV V nS ≤ 7 → σ' 50 0 = nI (nDV V nS) ∧ ∀ i, i < nDV V nS → σ' 52 i = nI (owV V nS i)))
  | 0, k, σ, hk, hs, hc, hc7, hd => by
    refine S_X3_listDays_7 ?_
    simp only [T_X3_listDays_7, fi_const, fi_iload, fi_aload, fi_istore, fi_astore, fi_iinc, fi_bin, fi_div, fi_un, fi_dup, fi_dup2, fi_pop, fi_if, fi_cmp, fi_getf, fi_putf, fi_putr, fi_ald, fi_ast, fi_alen, fi_iret, fi_zret, fi_vret, fi_cut, fi_no, fi_s0, fi_s1, fi_s2, fi_s3, fi_s4, fi_v0, fi_v1, fi_v2, fi_v3, fi_v4, fi_v5, fi_n0, fi_n1, fi_n2, fi_mm, fi_stat, fi_alds, fi_tsw, List.getElem?_cons_zero, List.getElem?_cons_succ, List.set_cons_zero, List.set_cons_succ, List.length_cons, List.length_nil, Option.toList_some, Option.toList_none, List.cons_append, List.nil_append, Value.category, true_and, k_0, k_1, k_2, k_3, k_4, false_implies, true_implies, reduceCtorEq]
    have k12 : k = 12 := by omega
    subst k12
    refine pk_le 12 12 (fun _ => ?_) (fun z => by omega)
    have h7 : nDV V nS ≤ 7 := hc7
    refine ⟨Or.inr trivial, ?_, σ, rfl, fun _ _ _ _ => rfl, fun _ => ⟨hc, fun i hi => ?_⟩⟩
    · rw [decide_eq_true h7]; rfl
    · obtain ⟨h1, h2, h3⟩ := ow_lt hi
      have := hd (owV V nS i) h1 h2
      rw [h3] at this
      exact this
  | m + 1, k, σ, hk, hs, hc, hc7, hd => by
    have hD := hX.2.2.2.1
    have hn := hT.2.2.2.2.2.1
    have e15 : σ (14 + 1) k = scF (v_dy V) k nS := by rw [hs (14 + 1) (by decide)]; exact (h0.tb hn k (by omega)).1
    refine S_X3_listDays_7 ?_
    simp only [T_X3_listDays_7, fi_const, fi_iload, fi_aload, fi_istore, fi_astore, fi_iinc, fi_bin, fi_div, fi_un, fi_dup, fi_dup2, fi_pop, fi_if, fi_cmp, fi_getf, fi_putf, fi_putr, fi_ald, fi_ast, fi_alen, fi_iret, fi_zret, fi_vret, fi_cut, fi_no, fi_s0, fi_s1, fi_s2, fi_s3, fi_s4, fi_v0, fi_v1, fi_v2, fi_v3, fi_v4, fi_v5, fi_n0, fi_n1, fi_n2, fi_mm, fi_stat, fi_alds, fi_tsw, List.getElem?_cons_zero, List.getElem?_cons_succ, List.set_cons_zero, List.set_cons_succ, List.length_cons, List.length_nil, Option.toList_some, Option.toList_none, List.cons_append, List.nil_append, Value.category, true_and, k_0, k_1, k_2, k_3, k_4, false_implies, true_implies, reduceCtorEq, hS.1]
    refine pk_le 12 k (fun z => by omega) (fun _ => ⟨by decide, ⟨_, hD.1⟩, (c_isFree (t := 14) hD (show k < 12 by omega)).mono ?_⟩)
    rintro x M' ⟨rfl, rfl⟩
    rw [e15]
    have i7 : ct (ocV V nS) k < 7 → vp_in (nI (ct (ocV V nS) k)) 7 := fun z => vp_in_nI z (by decide)
    simp only [fi_const, fi_iload, fi_aload, fi_istore, fi_astore, fi_iinc, fi_bin, fi_div, fi_un, fi_dup, fi_dup2, fi_pop, fi_if, fi_cmp, fi_getf, fi_putf, fi_putr, fi_ald, fi_ast, fi_alen, fi_iret, fi_zret, fi_vret, fi_cut, fi_no, fi_s0, fi_s1, fi_s2, fi_s3, fi_s4, fi_v0, fi_v1, fi_v2, fi_v3, fi_v4, fi_v5, fi_n0, fi_n1, fi_n2, fi_mm, fi_stat, fi_alds, fi_tsw, List.getElem?_cons_zero, List.getElem?_cons_succ, List.set_cons_zero, List.set_cons_succ, List.length_cons, List.length_nil, Option.toList_some, Option.toList_none, List.cons_append, List.nil_append, Value.category, true_and, k_0, k_1, k_2, k_3, k_4, false_implies, true_implies, reduceCtorEq, bI_eq0, hS.1, hc, decide_eq_false_iff_not, hS.2.2.1, nI_clamp (show ct (ocV V nS) k < 2 ^ 31 by omega), nI_1]
    refine ⟨fun q => ?_, fun q => ?_⟩
    · have ho : ocV V nS k = true := by
        cases w : ocV V nS k
        · exact absurd ((sc_oc hn k).mpr w) q
        · rfl
      have ec : ct (ocV V nS) (k + 1) = ct (ocV V nS) k + 1 := by rw [ct_s, if_pos ho]
      refine pk_lt (ct (ocV V nS) k) 7 (fun z => ⟨i7 z, ?_⟩) (fun z => ?_)
      · have e50 : fs_u σ 52 (ct (ocV V nS) k) (vp_nar .int (nI k)) 50 0 = nI (ct (ocV V nS) k) := by rw [fs_u_ne (by decide)]; exact hc
        rw [e50, nI_1, ← ec]
        refine fs_R_mono (l_listDays hX hS hT h0 m (k + 1) (fs_u (fs_u σ 52 (ct (ocV V nS) k) (nI k)) 50 0 (nI (ct (ocV V nS) (k + 1)))) (by omega) (fun a ha => by rw [fs_u_ne (by omega), fs_u_ne (by omega)]; exact hs a ha) (u_eq ..) (by omega) (fun e he ho2 => ?_)) ?_
        · rw [fs_u_ne (by decide)]
          by_cases w : e = k
          · rw [w, u_eq]
          · have hne : ¬ ct (ocV V nS) e = ct (ocV V nS) k := fun v => w (ct_inj ho2 ho v)
            simp only [fs_u]
            rw [if_neg (fun v => hne v.2)]
            exact hd e (by omega) ho2
        rintro x M' ⟨rfl, σ', rfl, f1, f2⟩
        refine ⟨rfl, σ', rfl, fun a b h1 h2 => ?_, f2⟩
        rw [f1 a b h1 h2]
        simp only [fs_u]
        rw [if_neg h1, if_neg (fun v => h2 v.1)]
      · have : nDV V nS > 7 := by
          have := ct_mono (ocV V nS) (show k + 1 ≤ 12 by omega)
          unfold nDV
          omega
        refine ⟨Or.inl trivial, ?_, σ, rfl, fun _ _ _ _ => rfl, fun z => by omega⟩
        rw [decide_eq_false (by omega)]; rfl
    · have ho : ocV V nS k = false := (sc_oc hn k).mp (Decidable.byContradiction q)
      have ec : ct (ocV V nS) (k + 1) = ct (ocV V nS) k := by rw [ct_s, if_neg (by rw [ho]; decide)]; omega
      refine l_listDays hX hS hT h0 m (k + 1) σ (by omega) hs (by rw [ec]; exact hc) (by omega) (fun e he ho2 => ?_)
      by_cases w : e = k
      · rw [w, ho] at ho2; exact absurd ho2 (by decide)
      · exact hd e (by omega) ho2
theorem c_listDays (hX : shX S) (hS : shS S) (hT : okT V nL nA nS) (h0 : IC σ0 V nL nA nS kp nb) (hs : ∀ a, a < 50 → σ a = σ0 a) : fs_Ct g m_X3_listDays [.ref 50] ((S, fr), σ, τ) (fun x M' => x = some (.int (bI (decide (nDV V nS ≤ 7)))) ∧ ∃ σ', M' = ((S, fr), σ', τ) ∧ (∀ a b, ¬ (a = 50 ∧ b = 0) → a ≠ 52 → σ' a b = σ a b) ∧ (nDV V nS ≤ 7 → σ' 50 0 = nI (nDV V nS) ∧ ∀ i, i < nDV V nS → σ' 52 i = nI (owV V nS i))) := by
  refine fs_enterC (by decide) (by simp [fs_ok]) (Nat.le_of_ble_eq_true rfl) (fun d => S_X3_listDays_0 ?_)
  show T_X3_listDays_0 g d _ [.ref 50, .null] [] _
  simp only [T_X3_listDays_0, fi_const, fi_iload, fi_aload, fi_istore, fi_astore, fi_iinc, fi_bin, fi_div, fi_un, fi_dup, fi_dup2, fi_pop, fi_if, fi_cmp, fi_getf, fi_putf, fi_putr, fi_ald, fi_ast, fi_alen, fi_iret, fi_zret, fi_vret, fi_cut, fi_no, fi_s0, fi_s1, fi_s2, fi_s3, fi_s4, fi_v0, fi_v1, fi_v2, fi_v3, fi_v4, fi_v5, fi_n0, fi_n1, fi_n2, fi_mm, fi_stat, fi_alds, fi_tsw, List.getElem?_cons_zero, List.getElem?_cons_succ, List.set_cons_zero, List.set_cons_succ, List.length_cons, List.length_nil, Option.toList_some, Option.toList_none, List.cons_append, List.nil_append, Value.category, true_and, k_0, k_1, k_2, k_3, k_4, false_implies, true_implies, reduceCtorEq]
  simp only [fi_const, fi_iload, fi_aload, fi_istore, fi_astore, fi_iinc, fi_bin, fi_div, fi_un, fi_dup, fi_dup2, fi_pop, fi_if, fi_cmp, fi_getf, fi_putf, fi_putr, fi_ald, fi_ast, fi_alen, fi_iret, fi_zret, fi_vret, fi_cut, fi_no, fi_s0, fi_s1, fi_s2, fi_s3, fi_s4, fi_v0, fi_v1, fi_v2, fi_v3, fi_v4, fi_v5, fi_n0, fi_n1, fi_n2, fi_mm, fi_stat, fi_alds, fi_tsw, List.getElem?_cons_zero, List.getElem?_cons_succ, List.set_cons_zero, List.set_cons_succ, List.length_cons, List.length_nil, Option.toList_some, Option.toList_none, List.cons_append, List.nil_append, Value.category, true_and, k_0, k_1, k_2, k_3, k_4, false_implies, true_implies, reduceCtorEq, hS.1]
  refine fs_R_mono (l_listDays hX hS hT h0 12 0 (fs_u σ 50 0 0) rfl (fun a ha => by rw [fs_u_ne (by omega)]; exact hs a ha) (u_eq ..) (Nat.zero_le _) (fun e he => by omega)) ?_
  rintro x M' ⟨rfl, σ', rfl, f1, f2⟩
  refine ⟨rfl, σ', rfl, fun a b h1 h2 => ?_, f2⟩
  rw [f1 a b h1 h2]
  simp only [fs_u]
  rw [if_neg h1]
/-- Arrays.fill -/
theorem l_fillJ {b n : Nat} {v : Int32} (hn : n < 2 ^ 31) (hb : S[b]? = some (.inl (.int, n))) : ∀ m k σ, k + m = n → fs_R g m_J7_fill_53178 d (0, 0) 5 [.ref b, .int v, .int (nI k), .int (nI n)] [] ((S, fr), σ, τ) (fun r M' => r = none ∧ ∃ σ', M' = ((S, fr), σ', τ) ∧ (∀ c, c ≠ b → σ' c = σ c) ∧ ∀ j, σ' b j = if k ≤ j ∧ j < n then v else σ b j)
  | 0, k, σ, hk => by
    refine S_J7_fill_53178_5 ?_
    simp only [T_J7_fill_53178_5, fi_const, fi_iload, fi_aload, fi_istore, fi_astore, fi_iinc, fi_bin, fi_div, fi_un, fi_dup, fi_dup2, fi_pop, fi_if, fi_cmp, fi_getf, fi_putf, fi_putr, fi_ald, fi_ast, fi_alen, fi_iret, fi_zret, fi_vret, fi_cut, fi_no, fi_s0, fi_s1, fi_s2, fi_s3, fi_s4, fi_v0, fi_v1, fi_v2, fi_v3, fi_v4, fi_v5, fi_n0, fi_n1, fi_n2, fi_mm, fi_stat, fi_alds, fi_tsw, List.getElem?_cons_zero, List.getElem?_cons_succ, List.set_cons_zero, List.set_cons_succ, List.length_cons, List.length_nil, Option.toList_some, Option.toList_none, List.cons_append, List.nil_append, Value.category, true_and, k_0, k_1, k_2, k_3, k_4, false_implies, true_implies, reduceCtorEq]
    refine pk_le n k (fun _ => ?_) (fun z => by omega)
    exact ⟨σ, rfl, fun _ _ => rfl, fun j => by rw [if_neg (by omega)]⟩
  | m + 1, k, σ, hk => by
    have hi : vp_in (nI k) n := vp_in_nI (by omega) hn
    refine S_J7_fill_53178_5 ?_
    simp only [T_J7_fill_53178_5, fi_const, fi_iload, fi_aload, fi_istore, fi_astore, fi_iinc, fi_bin, fi_div, fi_un, fi_dup, fi_dup2, fi_pop, fi_if, fi_cmp, fi_getf, fi_putf, fi_putr, fi_ald, fi_ast, fi_alen, fi_iret, fi_zret, fi_vret, fi_cut, fi_no, fi_s0, fi_s1, fi_s2, fi_s3, fi_s4, fi_v0, fi_v1, fi_v2, fi_v3, fi_v4, fi_v5, fi_n0, fi_n1, fi_n2, fi_mm, fi_stat, fi_alds, fi_tsw, List.getElem?_cons_zero, List.getElem?_cons_succ, List.set_cons_zero, List.set_cons_succ, List.length_cons, List.length_nil, Option.toList_some, Option.toList_none, List.cons_append, List.nil_append, Value.category, true_and, k_0, k_1, k_2, k_3, k_4, false_implies, true_implies, reduceCtorEq, hb, nI_clamp (show k < 2 ^ 31 by omega), hi, nI_1]
    refine pk_le n k (fun z => by omega) (fun _ => ?_)
    refine fs_R_mono (l_fillJ hn hb m (k + 1) (fs_u σ b k v) (by omega)) ?_
    rintro r M' ⟨rfl, σ', rfl, hs, s2⟩
    refine ⟨rfl, σ', rfl, fun c hc => by rw [hs c hc, fs_u_ne hc], fun j => ?_⟩
    rw [s2 j]
    by_cases q : j = k
    · rw [if_neg (show ¬ (k + 1 ≤ j ∧ j < n) by omega), if_pos (show k ≤ j ∧ j < n by omega), q, u_eq]
    · by_cases q2 : k + 1 ≤ j ∧ j < n
      · rw [if_pos q2, if_pos (by omega)]
      · rw [if_neg q2, if_neg (by omega)]
        simp only [fs_u]
        rw [if_neg (fun z => q z.2)]
theorem c_fillJ {b n : Nat} {v : Int32} (hn : n < 2 ^ 31) (hb : S[b]? = some (.inl (.int, n))) : fs_Ct g m_J7_fill_53178 [.ref b, .int v] ((S, fr), σ, τ) (fun r M' => r = none ∧ ∃ σ', M' = ((S, fr), σ', τ) ∧ (∀ c, c ≠ b → σ' c = σ c) ∧ ∀ j, σ' b j = if j < n then v else σ b j) := by
  refine fs_enterC (by decide) (by simp [fs_ok]) (Nat.le_of_ble_eq_true rfl) (fun d => S_J7_fill_53178_0 ?_)
  show T_J7_fill_53178_0 g d _ [.ref b, .int v, .null, .null] [] _
  simp only [T_J7_fill_53178_0, fi_const, fi_iload, fi_aload, fi_istore, fi_astore, fi_iinc, fi_bin, fi_div, fi_un, fi_dup, fi_dup2, fi_pop, fi_if, fi_cmp, fi_getf, fi_putf, fi_putr, fi_ald, fi_ast, fi_alen, fi_iret, fi_zret, fi_vret, fi_cut, fi_no, fi_s0, fi_s1, fi_s2, fi_s3, fi_s4, fi_v0, fi_v1, fi_v2, fi_v3, fi_v4, fi_v5, fi_n0, fi_n1, fi_n2, fi_mm, fi_stat, fi_alds, fi_tsw, List.getElem?_cons_zero, List.getElem?_cons_succ, List.set_cons_zero, List.set_cons_succ, List.length_cons, List.length_nil, Option.toList_some, Option.toList_none, List.cons_append, List.nil_append, Value.category, true_and, k_0, k_1, k_2, k_3, k_4, false_implies, true_implies, reduceCtorEq]
  simp only [fi_const, fi_iload, fi_aload, fi_istore, fi_astore, fi_iinc, fi_bin, fi_div, fi_un, fi_dup, fi_dup2, fi_pop, fi_if, fi_cmp, fi_getf, fi_putf, fi_putr, fi_ald, fi_ast, fi_alen, fi_iret, fi_zret, fi_vret, fi_cut, fi_no, fi_s0, fi_s1, fi_s2, fi_s3, fi_s4, fi_v0, fi_v1, fi_v2, fi_v3, fi_v4, fi_v5, fi_n0, fi_n1, fi_n2, fi_mm, fi_stat, fi_alds, fi_tsw, List.getElem?_cons_zero, List.getElem?_cons_succ, List.set_cons_zero, List.set_cons_succ, List.length_cons, List.length_nil, Option.toList_some, Option.toList_none, List.cons_append, List.nil_append, Value.category, true_and, k_0, k_1, k_2, k_3, k_4, false_implies, true_implies, reduceCtorEq, hb, fi_alen]
  refine ⟨Or.inl trivial, fs_R_mono (l_fillJ hn hb n 0 σ (by omega)) ?_⟩
  rintro r M' ⟨rfl, σ', rfl, hs, s2⟩
  exact ⟨rfl, σ', rfl, hs, fun j => by rw [s2 j]; simp⟩
theorem d12_w {w : Nat} (h : w < 128) : d12 (nI w) := by
  intro k hk
  by_cases q : k < 32
  · rw [bt_nI _ q, Nat.testBit_lt_two_pow (Nat.lt_of_lt_of_le h (Nat.le_trans (show 128 ≤ 2 ^ 12 by decide) (Nat.pow_le_pow_right (by decide) hk)))]
  · exact bt_ge _ (by omega)
theorem l_prep (hX : shX S) (hS : shS S) (hN : okN V nS (V 4)) : ∀ m k σ, k + m = 128 → σ 13 3 = V 4 3 → (∀ w, w < k → σ 55 w = nI (hcN (drN V) w)) → fs_R g m_X3_prepareWork d (0, 0) 10 [.ref 50, .int (nI k)] [] ((S, fr), σ, τ) (fun r M' => r = none ∧ ∃ σ', M' = ((S, fr), σ', τ) ∧ (∀ c, c ≠ 55 → σ' c = σ c) ∧ ∀ w, w < 128 → σ' 55 w = nI (hcN (drN V) w))
  | 0, k, σ, hk, h13, h => by
    refine S_X3_prepareWork_10 ?_
    simp only [T_X3_prepareWork_10, fi_const, fi_iload, fi_aload, fi_istore, fi_astore, fi_iinc, fi_bin, fi_div, fi_un, fi_dup, fi_dup2, fi_pop, fi_if, fi_cmp, fi_getf, fi_putf, fi_putr, fi_ald, fi_ast, fi_alen, fi_iret, fi_zret, fi_vret, fi_cut, fi_no, fi_s0, fi_s1, fi_s2, fi_s3, fi_s4, fi_v0, fi_v1, fi_v2, fi_v3, fi_v4, fi_v5, fi_n0, fi_n1, fi_n2, fi_mm, fi_stat, fi_alds, fi_tsw, List.getElem?_cons_zero, List.getElem?_cons_succ, List.set_cons_zero, List.set_cons_succ, List.length_cons, List.length_nil, Option.toList_some, Option.toList_none, List.cons_append, List.nil_append, Value.category, true_and, k_0, k_1, k_2, k_3, k_4, false_implies, true_implies, reduceCtorEq]
    refine pk_le 128 k (fun _ => ?_) (fun z => by omega)
    exact ⟨σ, rfl, fun _ _ => rfl, fun w hw => h w (by omega)⟩
  | m + 1, k, σ, hk, h13, h => by
    have hP := hX.2.2.1
    have hw := d12_w (show k < 128 by omega)
    have eD := (st_yes hN).2.2.1
    have hi : vp_in (nI k) 128 := vp_in_nI (by omega) (by decide)
    have i3 : vp_in 3 4 := vp_in_nI (n := 3) (by decide) (by decide)
    refine S_X3_prepareWork_10 ?_
    simp only [T_X3_prepareWork_10, fi_const, fi_iload, fi_aload, fi_istore, fi_astore, fi_iinc, fi_bin, fi_div, fi_un, fi_dup, fi_dup2, fi_pop, fi_if, fi_cmp, fi_getf, fi_putf, fi_putr, fi_ald, fi_ast, fi_alen, fi_iret, fi_zret, fi_vret, fi_cut, fi_no, fi_s0, fi_s1, fi_s2, fi_s3, fi_s4, fi_v0, fi_v1, fi_v2, fi_v3, fi_v4, fi_v5, fi_n0, fi_n1, fi_n2, fi_mm, fi_stat, fi_alds, fi_tsw, List.getElem?_cons_zero, List.getElem?_cons_succ, List.set_cons_zero, List.set_cons_succ, List.length_cons, List.length_nil, Option.toList_some, Option.toList_none, List.cons_append, List.nil_append, Value.category, true_and, k_0, k_1, k_2, k_3, k_4, false_implies, true_implies, reduceCtorEq, hS.1, hP.1, hP.2.2.2.2.2.2.2.2.2.2.2, show 2 + 11 = 13 from rfl, h13, i3]
    refine pk_le 128 k (fun z => by omega) (fun _ => ⟨by decide, (c_held (nI k) (V 4 3) hw).mono ?_⟩)
    rintro r M' ⟨⟨x, rfl, hx⟩, rfl⟩
    simp only [fi_const, fi_iload, fi_aload, fi_istore, fi_astore, fi_iinc, fi_bin, fi_div, fi_un, fi_dup, fi_dup2, fi_pop, fi_if, fi_cmp, fi_getf, fi_putf, fi_putr, fi_ald, fi_ast, fi_alen, fi_iret, fi_zret, fi_vret, fi_cut, fi_no, fi_s0, fi_s1, fi_s2, fi_s3, fi_s4, fi_v0, fi_v1, fi_v2, fi_v3, fi_v4, fi_v5, fi_n0, fi_n1, fi_n2, fi_mm, fi_stat, fi_alds, fi_tsw, List.getElem?_cons_zero, List.getElem?_cons_succ, List.set_cons_zero, List.set_cons_succ, List.length_cons, List.length_nil, Option.toList_some, Option.toList_none, List.cons_append, List.nil_append, Value.category, true_and, k_0, k_1, k_2, k_3, k_4, false_implies, true_implies, reduceCtorEq]
    refine ⟨by decide, (c_bitCount x hx.d12).mono ?_⟩
    rintro r M' ⟨rfl, rfl⟩
    simp only [fi_const, fi_iload, fi_aload, fi_istore, fi_astore, fi_iinc, fi_bin, fi_div, fi_un, fi_dup, fi_dup2, fi_pop, fi_if, fi_cmp, fi_getf, fi_putf, fi_putr, fi_ald, fi_ast, fi_alen, fi_iret, fi_zret, fi_vret, fi_cut, fi_no, fi_s0, fi_s1, fi_s2, fi_s3, fi_s4, fi_v0, fi_v1, fi_v2, fi_v3, fi_v4, fi_v5, fi_n0, fi_n1, fi_n2, fi_mm, fi_stat, fi_alds, fi_tsw, List.getElem?_cons_zero, List.getElem?_cons_succ, List.set_cons_zero, List.set_cons_succ, List.length_cons, List.length_nil, Option.toList_some, Option.toList_none, List.cons_append, List.nil_append, Value.category, true_and, k_0, k_1, k_2, k_3, k_4, false_implies, true_implies, reduceCtorEq, hS.2.2.2.2.2, hi, nI_clamp (show k < 2 ^ 31 by omega), nI_1]
    have e : ct (bt x) 12 = hcN (drN V) k := by rw [ct_isSet hx, eD]; rfl
    refine fs_R_mono (l_prep hX hS hN m (k + 1) (fs_u σ 55 k (nI (ct (bt x) 12))) (by omega) (by rw [fs_u_ne (by decide)]; exact h13) (fun w hw => ?_)) ?_
    · by_cases q : w = k
      · rw [q, u_eq, e]
      · simp only [fs_u]
        rw [if_neg (fun z => q z.2)]
        exact h w (by omega)
    rintro r M' ⟨rfl, σ', rfl, f1, f2⟩
    exact ⟨rfl, σ', rfl, fun c hc => by rw [f1 c hc, fs_u_ne hc], f2⟩
theorem c_prep (hX : shX S) (hS : shS S) (hN : okN V nS (V 4)) (h13 : σ 13 3 = V 4 3) : fs_Ct g m_X3_prepareWork [.ref 50] ((S, fr), σ, τ) (fun r M' => r = none ∧ ∃ σ', M' = ((S, fr), σ', τ) ∧ (∀ c, c ≠ 54 → c ≠ 55 → σ' c = σ c) ∧ (∀ a, a < 6 → σ' 54 a = 0) ∧ ∀ w, w < 128 → σ' 55 w = nI (hcN (drN V) w)) := by
  refine fs_enterC (by decide) (by simp [fs_ok]) (Nat.le_of_ble_eq_true rfl) (fun d => S_X3_prepareWork_0 ?_)
  show T_X3_prepareWork_0 g d _ [.ref 50, .null] [] _
  simp only [T_X3_prepareWork_0, fi_const, fi_iload, fi_aload, fi_istore, fi_astore, fi_iinc, fi_bin, fi_div, fi_un, fi_dup, fi_dup2, fi_pop, fi_if, fi_cmp, fi_getf, fi_putf, fi_putr, fi_ald, fi_ast, fi_alen, fi_iret, fi_zret, fi_vret, fi_cut, fi_no, fi_s0, fi_s1, fi_s2, fi_s3, fi_s4, fi_v0, fi_v1, fi_v2, fi_v3, fi_v4, fi_v5, fi_n0, fi_n1, fi_n2, fi_mm, fi_stat, fi_alds, fi_tsw, List.getElem?_cons_zero, List.getElem?_cons_succ, List.set_cons_zero, List.set_cons_succ, List.length_cons, List.length_nil, Option.toList_some, Option.toList_none, List.cons_append, List.nil_append, Value.category, true_and, k_0, k_1, k_2, k_3, k_4, false_implies, true_implies, reduceCtorEq]
  simp only [fi_const, fi_iload, fi_aload, fi_istore, fi_astore, fi_iinc, fi_bin, fi_div, fi_un, fi_dup, fi_dup2, fi_pop, fi_if, fi_cmp, fi_getf, fi_putf, fi_putr, fi_ald, fi_ast, fi_alen, fi_iret, fi_zret, fi_vret, fi_cut, fi_no, fi_s0, fi_s1, fi_s2, fi_s3, fi_s4, fi_v0, fi_v1, fi_v2, fi_v3, fi_v4, fi_v5, fi_n0, fi_n1, fi_n2, fi_mm, fi_stat, fi_alds, fi_tsw, List.getElem?_cons_zero, List.getElem?_cons_succ, List.set_cons_zero, List.set_cons_succ, List.length_cons, List.length_nil, Option.toList_some, Option.toList_none, List.cons_append, List.nil_append, Value.category, true_and, k_0, k_1, k_2, k_3, k_4, false_implies, true_implies, reduceCtorEq, hS.1]
  refine ⟨by decide, (c_fillJ (b := 54) (n := 6) (by decide) hS.2.2.2.2.1).mono ?_⟩
  rintro r M' ⟨rfl, σ1, rfl, f1, f2⟩
  simp only [fi_const, fi_iload, fi_aload, fi_istore, fi_astore, fi_iinc, fi_bin, fi_div, fi_un, fi_dup, fi_dup2, fi_pop, fi_if, fi_cmp, fi_getf, fi_putf, fi_putr, fi_ald, fi_ast, fi_alen, fi_iret, fi_zret, fi_vret, fi_cut, fi_no, fi_s0, fi_s1, fi_s2, fi_s3, fi_s4, fi_v0, fi_v1, fi_v2, fi_v3, fi_v4, fi_v5, fi_n0, fi_n1, fi_n2, fi_mm, fi_stat, fi_alds, fi_tsw, List.getElem?_cons_zero, List.getElem?_cons_succ, List.set_cons_zero, List.set_cons_succ, List.length_cons, List.length_nil, Option.toList_some, Option.toList_none, List.cons_append, List.nil_append, Value.category, true_and, k_0, k_1, k_2, k_3, k_4, false_implies, true_implies, reduceCtorEq]
  refine fs_R_mono (l_prep hX hS hN 128 0 σ1 rfl (by rw [f1 13 (by decide)]; exact h13) (fun w hw => by omega)) ?_
  rintro r M' ⟨rfl, σ', rfl, f3, f4⟩
  exact ⟨rfl, σ', rfl, fun c h1 h2 => by rw [f3 c h2, f1 c h1], fun a ha => by rw [f3 54 (by decide), f2 a, if_pos ha], f4⟩
end PS5
