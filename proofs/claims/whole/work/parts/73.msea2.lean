/-! ===== the search of the reference ===== -/
section PS8
variable {g : fs_G} {d : Nat} {S : List fs_Sh} {fr : Bool} {σ σ0 : Nat → Nat → Int32} {τ : Nat → Nat → Int64} {V : Vt} {nL nA nS kp nb : Nat}
/-- what the search may change -/
def seS (σ0 σ : Nat → Nat → Int32) : Prop := ∀ a b, ¬ (a = 56 ∧ (b = 23 ∨ b = 24 ∨ b = 31 ∨ b = 32)) → ¬ (a = 60 ∨ a = 62 ∨ a = 64 ∨ a = 66 ∨ a = 67 ∨ a = 68) → σ a b = σ0 a b
theorem seS.rf : seS σ σ := fun _ _ _ _ => rfl
theorem seS.tr {σ1 : Nat → Nat → Int32} (h : seS σ0 σ) (h2 : seS σ σ1) : seS σ0 σ1 := fun a b x y => (h2 a b x y).trans (h a b x y)
theorem seS.cell (h : seS σ0 σ) {a : Nat} (ha : a ≠ 56) (h2 : ¬ (a = 60 ∨ a = 62 ∨ a = 64 ∨ a = 66 ∨ a = 67 ∨ a = 68)) : σ a = σ0 a := funext fun b => h a b (fun z => ha z.1) h2
theorem seS.one {σ1 : Nat → Nat → Int32} {c : Nat} (h : ∀ a, a ≠ c → σ1 a = σ a) (hc : c = 60 ∨ c = 62 ∨ c = 64 ∨ c = 66 ∨ c = 67 ∨ c = 68) : seS σ σ1 := fun a b _ y => by rw [h a (fun z => y (z ▸ hc))]
theorem seS.fld {b : Nat} {x : Int32} (hb : b = 23 ∨ b = 24 ∨ b = 31 ∨ b = 32) : seS σ (fs_u σ 56 b x) := fun a c y _ => by
  simp only [fs_u]
  rw [if_neg (show ¬ (a = 56 ∧ c = b) from fun z => y ⟨z.1, by rw [z.2]; exact hb⟩)]
theorem seS.cs (h : csS σ σ0 56) : seS σ σ0 := fun a b x y => h a b (fun z => y (by omega)) (fun z => x ⟨z.1, by omega⟩)
/-- the reference's own state of the search -/
def seI (σ : Nat → Nat → Int32) (V : Vt) (nA nS : Nat) (s : Option Nat) : Prop := σ 56 31 = nI (nDV V nS) ∧ (∀ i, i < nDV V nS → σ 66 i = nI (owV V nS i)) ∧ (∀ j, j < 18 → σ 62 j = V 4 j) ∧ (∀ j, ¬ (4 ≤ j ∧ j < 4 + nS) → σ 60 j = V 4 j) ∧ σ 56 32 = (match s with | none => -1 | some m => nI (ccV V nA nS m)) ∧ ∀ m, s = some m → ∀ i, i < nDV V nS → σ 68 i = nI (rwN (nDV V nS) m i)
theorem l_sea4 (hM : shM S 56) (hnS : nS ≤ 14) {Q : Option Value → fs_M → Prop} : ∀ m k σ z1 z2, k + m = 12 → σ 58 82 = nI nS → σ 60 = V 4 → (∀ e, e < k → ocV V nS e = true → ct (ocV V nS) e < 7 → σ 66 (ct (ocV V nS) e) = nI e) →
    (∀ σ', (∀ c, c ≠ 66 → σ' c = σ c) → (7 < nDV V nS → Q (some (.int (-4))) ((S, fr), σ', τ)) ∧ (nDV V nS ≤ 7 → (∀ i, i < nDV V nS → σ' 66 i = nI (owV V nS i)) → fs_Ct g m_X9_copies [.ref 60, .ref 62] ((S, fr), fs_u σ' 56 31 (nI (nDV V nS)), τ) (fun r M' => r = none ∧ fs_R g m_X9_searches d (0, 0) 73 [.ref 56, .int (nI (nDV V nS)), .int 1, .int 0, z2] [] M' Q))) →
    fs_R g m_X9_searches d (0, 0) 4 [.ref 56, .int (nI (ct (ocV V nS) k)), .int (nI k), z1, z2] [] ((S, fr), σ, τ) Q
  | 0, k, σ, z1, z2, hk, h82, h60, h, K => by
    have k12 : k = 12 := by omega
    subst k12
    obtain ⟨K1, K2⟩ := K σ (fun _ _ => rfl)
    have hc := ct_le (ocV V nS) 12
    refine S_X9_searches_4 ?_
    simp only [T_X9_searches_4, fi_const, fi_iload, fi_aload, fi_istore, fi_astore, fi_iinc, fi_bin, fi_div, fi_un, fi_dup, fi_dup2, fi_pop, fi_if, fi_cmp, fi_getf, fi_putf, fi_putr, fi_ald, fi_ast, fi_alen, fi_iret, fi_zret, fi_vret, fi_cut, fi_no, fi_s0, fi_s1, fi_s2, fi_s3, fi_s4, fi_v0, fi_v1, fi_v2, fi_v3, fi_v4, fi_v5, fi_n0, fi_n1, fi_n2, fi_mm, fi_stat, fi_alds, fi_tsw, List.getElem?_cons_zero, List.getElem?_cons_succ, List.set_cons_zero, List.set_cons_succ, List.length_cons, List.length_nil, Option.toList_some, Option.toList_none, List.cons_append, List.nil_append, Value.category, true_and, k_0, k_1, k_2, k_3, k_4, false_implies, true_implies, reduceCtorEq, hM.1]
    refine pk_le 12 12 (fun _ => ?_) (fun z => by omega)
    refine pk_le (ct (ocV V nS) 12) 7 (fun q => ?_) (fun q => K1 q)
    have := K2 q (fun i hi => by
      obtain ⟨h1, h2, h3⟩ := ow_lt hi
      have := h (owV V nS i) h1 h2 (by rw [h3]; unfold nDV at hi; omega)
      rw [h3] at this
      exact this)
    refine ⟨by decide, this.mono ?_⟩
    rintro r M' ⟨rfl, h⟩
    simp only [fi_const, fi_iload, fi_aload, fi_istore, fi_astore, fi_iinc, fi_bin, fi_div, fi_un, fi_dup, fi_dup2, fi_pop, fi_if, fi_cmp, fi_getf, fi_putf, fi_putr, fi_ald, fi_ast, fi_alen, fi_iret, fi_zret, fi_vret, fi_cut, fi_no, fi_s0, fi_s1, fi_s2, fi_s3, fi_s4, fi_v0, fi_v1, fi_v2, fi_v3, fi_v4, fi_v5, fi_n0, fi_n1, fi_n2, fi_mm, fi_stat, fi_alds, fi_tsw, List.getElem?_cons_zero, List.getElem?_cons_succ, List.set_cons_zero, List.set_cons_succ, List.length_cons, List.length_nil, Option.toList_some, Option.toList_none, List.cons_append, List.nil_append, Value.category, true_and, k_0, k_1, k_2, k_3, k_4, false_implies, true_implies, reduceCtorEq]
    exact h
  | m + 1, k, σ, z1, z2, hk, h82, h60, h, K => by
    have hc := ct_le (ocV V nS) k
    refine S_X9_searches_4 ?_
    simp only [T_X9_searches_4, fi_const, fi_iload, fi_aload, fi_istore, fi_astore, fi_iinc, fi_bin, fi_div, fi_un, fi_dup, fi_dup2, fi_pop, fi_if, fi_cmp, fi_getf, fi_putf, fi_putr, fi_ald, fi_ast, fi_alen, fi_iret, fi_zret, fi_vret, fi_cut, fi_no, fi_s0, fi_s1, fi_s2, fi_s3, fi_s4, fi_v0, fi_v1, fi_v2, fi_v3, fi_v4, fi_v5, fi_n0, fi_n1, fi_n2, fi_mm, fi_stat, fi_alds, fi_tsw, List.getElem?_cons_zero, List.getElem?_cons_succ, List.set_cons_zero, List.set_cons_succ, List.length_cons, List.length_nil, Option.toList_some, Option.toList_none, List.cons_append, List.nil_append, Value.category, true_and, k_0, k_1, k_2, k_3, k_4, false_implies, true_implies, reduceCtorEq, hM.1]
    refine pk_le 12 k (fun z => by omega) (fun _ => ⟨by decide, ⟨_, rfl⟩, (c_anyOf hM hnS h82 k).mono ?_⟩)
    rintro r M' ⟨rfl, rfl⟩
    have eo : fr_ (σ (56 + 4)) 4 = v_dy V := by rw [show 56 + 4 = 60 from rfl, h60]
    rw [eo]
    simp only [fi_const, fi_iload, fi_aload, fi_istore, fi_astore, fi_iinc, fi_bin, fi_div, fi_un, fi_dup, fi_dup2, fi_pop, fi_if, fi_cmp, fi_getf, fi_putf, fi_putr, fi_ald, fi_ast, fi_alen, fi_iret, fi_zret, fi_vret, fi_cut, fi_no, fi_s0, fi_s1, fi_s2, fi_s3, fi_s4, fi_v0, fi_v1, fi_v2, fi_v3, fi_v4, fi_v5, fi_n0, fi_n1, fi_n2, fi_mm, fi_stat, fi_alds, fi_tsw, List.getElem?_cons_zero, List.getElem?_cons_succ, List.set_cons_zero, List.set_cons_succ, List.length_cons, List.length_nil, Option.toList_some, Option.toList_none, List.cons_append, List.nil_append, Value.category, true_and, k_0, k_1, k_2, k_3, k_4, false_implies, true_implies, reduceCtorEq, hM.1, nI_1]
    refine ⟨fun q => ?_, fun q => ?_⟩
    · have ho : ocV V nS k = false := by
        unfold ocV
        cases w : anF (v_dy V) k nS 0 with
        | none => rfl
        | some j =>
          rw [w] at q
          have := (anF_some w).1
          exact absurd q (nI_m1 (by omega))
      have ec : ct (ocV V nS) (k + 1) = ct (ocV V nS) k := by rw [ct_s, if_neg (by rw [ho]; decide)]; omega
      rw [← ec]
      refine l_sea4 hM hnS m (k + 1) σ z1 z2 (by omega) h82 h60 (fun e he ho2 h7 => ?_) K
      by_cases w : e = k
      · rw [w, ho] at ho2; exact absurd ho2 (by decide)
      · exact h e (by omega) ho2 h7
    · have ho : ocV V nS k = true := by
        unfold ocV
        cases w : anF (v_dy V) k nS 0 with
        | none => rw [w] at q; exact absurd rfl q
        | some j => rfl
      have ec : ct (ocV V nS) (k + 1) = ct (ocV V nS) k + 1 := by rw [ct_s, if_pos ho]
      rw [← ec]
      refine pk_le 7 (ct (ocV V nS) k) (fun w => ?_) (fun w => ?_)
      · refine l_sea4 hM hnS m (k + 1) σ z1 z2 (by omega) h82 h60 (fun e he ho2 h7 => ?_) K
        by_cases v : e = k
        · rw [v] at h7; omega
        · exact h e (by omega) ho2 h7
      · simp only [hM.2.2.2.2.2.2.2.2.2.2.1, fi_const, fi_iload, fi_aload, fi_istore, fi_astore, fi_iinc, fi_bin, fi_div, fi_un, fi_dup, fi_dup2, fi_pop, fi_if, fi_cmp, fi_getf, fi_putf, fi_putr, fi_ald, fi_ast, fi_alen, fi_iret, fi_zret, fi_vret, fi_cut, fi_no, fi_s0, fi_s1, fi_s2, fi_s3, fi_s4, fi_v0, fi_v1, fi_v2, fi_v3, fi_v4, fi_v5, fi_n0, fi_n1, fi_n2, fi_mm, fi_stat, fi_alds, fi_tsw, List.getElem?_cons_zero, List.getElem?_cons_succ, List.set_cons_zero, List.set_cons_succ, List.length_cons, List.length_nil, Option.toList_some, Option.toList_none, List.cons_append, List.nil_append, Value.category, true_and, k_0, k_1, k_2, k_3, k_4, false_implies, true_implies, reduceCtorEq, show 56 + 10 = 66 from rfl, nI_clamp (show ct (ocV V nS) k < 2 ^ 31 by omega)]
        refine ⟨vp_in_nI w (by decide), ?_⟩
        refine l_sea4 hM hnS m (k + 1) (fs_u σ 66 (ct (ocV V nS) k) (nI k)) z1 z2 (by omega) (by rw [fs_u_ne (by decide)]; exact h82) (by rw [fs_u_ne (by decide)]; exact h60) (fun e he ho2 h7 => ?_) (fun σ' f => K σ' (fun c hc => by rw [f c hc, fs_u_ne hc]))
        by_cases v : e = k
        · rw [v, u_eq]
        · have hne : ¬ ct (ocV V nS) e = ct (ocV V nS) k := fun y => v (ct_inj ho2 ho y)
          simp only [fs_u]
          rw [if_neg (fun y => hne y.2)]
          exact h e (by omega) ho2 h7
theorem l_sea73 (hM : shM S 56) {n : Nat} (hn : n ≤ 7) {Q : Option Value → fs_M → Prop} {z2 : Value} {z1 : Value} (h31 : σ 56 31 = nI n) (K : fs_R g m_X9_searches d (0, 0) 101 [.ref 56, z1, .int (nI (n ^ n)), .int 0, z2] [] ((S, fr), fs_u σ 56 32 (-1), τ) Q) : ∀ m i, i + m = n → fs_R g m_X9_searches d (0, 0) 73 [.ref 56, z1, .int (nI (n ^ i)), .int (nI i), z2] [] ((S, fr), σ, τ) Q
  | 0, i, hi => by
    refine S_X9_searches_73 ?_
    simp only [T_X9_searches_73, fi_const, fi_iload, fi_aload, fi_istore, fi_astore, fi_iinc, fi_bin, fi_div, fi_un, fi_dup, fi_dup2, fi_pop, fi_if, fi_cmp, fi_getf, fi_putf, fi_putr, fi_ald, fi_ast, fi_alen, fi_iret, fi_zret, fi_vret, fi_cut, fi_no, fi_s0, fi_s1, fi_s2, fi_s3, fi_s4, fi_v0, fi_v1, fi_v2, fi_v3, fi_v4, fi_v5, fi_n0, fi_n1, fi_n2, fi_mm, fi_stat, fi_alds, fi_tsw, List.getElem?_cons_zero, List.getElem?_cons_succ, List.set_cons_zero, List.set_cons_succ, List.length_cons, List.length_nil, Option.toList_some, Option.toList_none, List.cons_append, List.nil_append, Value.category, true_and, k_0, k_1, k_2, k_3, k_4, false_implies, true_implies, reduceCtorEq, hM.1, h31]
    refine pk_le n i (fun _ => ?_) (fun z => by omega)
    rw [show i = n by omega]
    exact K
  | m + 1, i, hi => by
    refine S_X9_searches_73 ?_
    simp only [T_X9_searches_73, fi_const, fi_iload, fi_aload, fi_istore, fi_astore, fi_iinc, fi_bin, fi_div, fi_un, fi_dup, fi_dup2, fi_pop, fi_if, fi_cmp, fi_getf, fi_putf, fi_putr, fi_ald, fi_ast, fi_alen, fi_iret, fi_zret, fi_vret, fi_cut, fi_no, fi_s0, fi_s1, fi_s2, fi_s3, fi_s4, fi_v0, fi_v1, fi_v2, fi_v3, fi_v4, fi_v5, fi_n0, fi_n1, fi_n2, fi_mm, fi_stat, fi_alds, fi_tsw, List.getElem?_cons_zero, List.getElem?_cons_succ, List.set_cons_zero, List.set_cons_succ, List.length_cons, List.length_nil, Option.toList_some, Option.toList_none, List.cons_append, List.nil_append, Value.category, true_and, k_0, k_1, k_2, k_3, k_4, false_implies, true_implies, reduceCtorEq, hM.1, h31, pk_mul, nI_1, ← Nat.pow_succ]
    refine pk_le n i (fun z => by omega) (fun _ => ?_)
    exact l_sea73 hM hn h31 K m (i + 1) (by omega)
theorem l_sea101 (hX : shX S) (hT : okT V nL nA nS) (hN : okN V nS (V 4)) (h7 : nDV V nS ≤ 7) (h0 : IM σ0 V kp nb) {z1 : Value} : ∀ m x s σ z, x + m = nDV V nS ^ nDV V nS → seS σ0 σ → seI σ V nA nS s → fs_R g m_X9_searches d (0, 0) 101 [.ref 56, z1, .int (nI (nDV V nS ^ nDV V nS)), .int (nI x), z] [] ((S, fr), σ, τ) (fun r M' => r = some (.int (match sfd (gdV V nS) (ccV V nA nS) m x s with | none => -1 | some k => nI (ccV V nA nS k))) ∧ ∃ σ', M' = ((S, fr), σ', τ) ∧ seS σ0 σ' ∧ seI σ' V nA nS (sfd (gdV V nS) (ccV V nA nS) m x s) ∧ σ' 60 = V 4)
  | 0, x, s, σ, z, hx, hs, h => by
    have hM := hX.m
    have hb : nDV V nS ^ nDV V nS ≤ 7 ^ 7 := Nat.le_trans (Nat.pow_le_pow_left h7 _) (Nat.pow_le_pow_right (by decide) h7)
    have hb2 : nDV V nS ^ nDV V nS < 2 ^ 31 := Nat.lt_of_le_of_lt hb (by decide)
    obtain ⟨i1, i2, i3, i4, i5, i6⟩ := id h
    refine S_X9_searches_101 ?_
    simp only [T_X9_searches_101, fi_const, fi_iload, fi_aload, fi_istore, fi_astore, fi_iinc, fi_bin, fi_div, fi_un, fi_dup, fi_dup2, fi_pop, fi_if, fi_cmp, fi_getf, fi_putf, fi_putr, fi_ald, fi_ast, fi_alen, fi_iret, fi_zret, fi_vret, fi_cut, fi_no, fi_s0, fi_s1, fi_s2, fi_s3, fi_s4, fi_v0, fi_v1, fi_v2, fi_v3, fi_v4, fi_v5, fi_n0, fi_n1, fi_n2, fi_mm, fi_stat, fi_alds, fi_tsw, List.getElem?_cons_zero, List.getElem?_cons_succ, List.set_cons_zero, List.set_cons_succ, List.length_cons, List.length_nil, Option.toList_some, Option.toList_none, List.cons_append, List.nil_append, Value.category, true_and, k_0, k_1, k_2, k_3, k_4, false_implies, true_implies, reduceCtorEq, hM.1]
    refine pk_le (nDV V nS ^ nDV V nS) x (fun _ => ?_) (fun z => by omega)
    refine ⟨by decide, (c_copies (a := 62) (b := 60) (by decide) hM.2.2.2.2.2.2.1 hM.2.2.2.2.1).mono ?_⟩
    rintro r M' ⟨rfl, σ1, rfl, f1, f2⟩
    have e60 : σ1 60 = V 4 := by
      funext j
      rw [f2 j]
      by_cases q : j < 18
      · rw [if_pos q]; exact i3 j q
      · have := hT.2.2.2.2.2.1
        rw [if_neg q]; exact i4 j (by omega)
    simp only [fi_const, fi_iload, fi_aload, fi_istore, fi_astore, fi_iinc, fi_bin, fi_div, fi_un, fi_dup, fi_dup2, fi_pop, fi_if, fi_cmp, fi_getf, fi_putf, fi_putr, fi_ald, fi_ast, fi_alen, fi_iret, fi_zret, fi_vret, fi_cut, fi_no, fi_s0, fi_s1, fi_s2, fi_s3, fi_s4, fi_v0, fi_v1, fi_v2, fi_v3, fi_v4, fi_v5, fi_n0, fi_n1, fi_n2, fi_mm, fi_stat, fi_alds, fi_tsw, List.getElem?_cons_zero, List.getElem?_cons_succ, List.set_cons_zero, List.set_cons_succ, List.length_cons, List.length_nil, Option.toList_some, Option.toList_none, List.cons_append, List.nil_append, Value.category, true_and, k_0, k_1, k_2, k_3, k_4, false_implies, true_implies, reduceCtorEq, hM.1, f1 56 (show 56 ≠ 60 by decide), i5]
    refine ⟨rfl, σ1, rfl, hs.tr (seS.one f1 (by decide)), ⟨by rw [f1 56 (by decide)]; exact i1, by rw [f1 66 (by decide)]; exact i2, by rw [f1 62 (by decide)]; exact i3, fun j _ => congrFun e60 j, by rw [f1 56 (by decide)]; exact i5, by rw [f1 68 (by decide)]; exact i6⟩, e60⟩
  | m + 1, x, s, σ, z, hx, hs, h => by
    have hM := hX.m
    have hn := hT.2.2.2.2.2.1
    have hb : nDV V nS ^ nDV V nS ≤ 7 ^ 7 := Nat.le_trans (Nat.pow_le_pow_left h7 _) (Nat.pow_le_pow_right (by decide) h7)
    have hb2 : nDV V nS ^ nDV V nS < 2 ^ 31 := Nat.lt_of_le_of_lt hb (by decide)
    obtain ⟨i1, i2, i3, i4, i5, i6⟩ := id h
    have hrn : ∀ i, i < nDV V nS → rwN (nDV V nS) x i < nDV V nS := fun i hi => rwN_lt (by omega)
    have skip : ∀ σ' z', seS σ0 σ' → seI σ' V nA nS s → stp (gdV V nS) (ccV V nA nS) s x = s → fs_R g m_X9_searches d (0, 0) 101 [.ref 56, z1, .int (nI (nDV V nS ^ nDV V nS)), .int (nI (x + 1)), z'] [] ((S, fr), σ', τ) (fun r M' => r = some (.int (match sfd (gdV V nS) (ccV V nA nS) (m + 1) x s with | none => -1 | some k => nI (ccV V nA nS k))) ∧ ∃ σ', M' = ((S, fr), σ', τ) ∧ seS σ0 σ' ∧ seI σ' V nA nS (sfd (gdV V nS) (ccV V nA nS) (m + 1) x s) ∧ σ' 60 = V 4) := by
      intro σ' z' h1 h2 e
      have e2 : sfd (gdV V nS) (ccV V nA nS) (m + 1) x s = sfd (gdV V nS) (ccV V nA nS) m (x + 1) s := by simp only [sfd]; rw [e]
      rw [e2]
      exact l_sea101 hX hT hN h7 h0 m (x + 1) s σ' z' (by omega) h1 h2
    refine S_X9_searches_101 ?_
    simp only [T_X9_searches_101, fi_const, fi_iload, fi_aload, fi_istore, fi_astore, fi_iinc, fi_bin, fi_div, fi_un, fi_dup, fi_dup2, fi_pop, fi_if, fi_cmp, fi_getf, fi_putf, fi_putr, fi_ald, fi_ast, fi_alen, fi_iret, fi_zret, fi_vret, fi_cut, fi_no, fi_s0, fi_s1, fi_s2, fi_s3, fi_s4, fi_v0, fi_v1, fi_v2, fi_v3, fi_v4, fi_v5, fi_n0, fi_n1, fi_n2, fi_mm, fi_stat, fi_alds, fi_tsw, List.getElem?_cons_zero, List.getElem?_cons_succ, List.set_cons_zero, List.set_cons_succ, List.length_cons, List.length_nil, Option.toList_some, Option.toList_none, List.cons_append, List.nil_append, Value.category, true_and, k_0, k_1, k_2, k_3, k_4, false_implies, true_implies, reduceCtorEq, hM.1]
    refine pk_le (nDV V nS ^ nDV V nS) x (fun z => by omega) (fun _ => ?_)
    refine ⟨by decide, ⟨_, rfl⟩, (c_lays hM h7 (show x < 2 ^ 31 by omega) i1).mono ?_⟩
    rintro r M' ⟨rfl, σ1, rfl, f1, f2⟩
    simp only [fi_const, fi_iload, fi_aload, fi_istore, fi_astore, fi_iinc, fi_bin, fi_div, fi_un, fi_dup, fi_dup2, fi_pop, fi_if, fi_cmp, fi_getf, fi_putf, fi_putr, fi_ald, fi_ast, fi_alen, fi_iret, fi_zret, fi_vret, fi_cut, fi_no, fi_s0, fi_s1, fi_s2, fi_s3, fi_s4, fi_v0, fi_v1, fi_v2, fi_v3, fi_v4, fi_v5, fi_n0, fi_n1, fi_n2, fi_mm, fi_stat, fi_alds, fi_tsw, List.getElem?_cons_zero, List.getElem?_cons_succ, List.set_cons_zero, List.set_cons_succ, List.length_cons, List.length_nil, Option.toList_some, Option.toList_none, List.cons_append, List.nil_append, Value.category, true_and, k_0, k_1, k_2, k_3, k_4, false_implies, true_implies, reduceCtorEq, bI_eq0, hM.1, nI_1]
    have hs1 : seS σ0 σ1 := hs.tr (seS.one f1 (by decide))
    have hI1 : seI σ1 V nA nS s := ⟨by rw [f1 56 (by decide)]; exact i1, by rw [f1 66 (by decide)]; exact i2, by rw [f1 62 (by decide)]; exact i3, by rw [f1 60 (by decide)]; exact i4, by rw [f1 56 (by decide)]; exact i5, by rw [f1 68 (by decide)]; exact i6⟩
    refine ⟨fun q => skip σ1 z hs1 hI1 (stp_bad (by unfold gdV; rw [q]; rfl)), fun q => ?_⟩
    have hpm : pmB (rwN (nDV V nS) x) (nDV V nS) = true := by cases w : pmB (rwN (nDV V nS) x) (nDV V nS); exact absurd w q; rfl
    obtain ⟨j1, j2, j3, j4, j5, j6⟩ := id hI1
    have e58 : σ1 58 = V 2 := by rw [hs1.cell (by decide) (by decide)]; exact h0.1
    refine ⟨by decide, ⟨_, rfl⟩, (c_stands (b := 67) hM h7 hn hM.2.2.2.2.2.2.2.2.2.2.2.1 (by decide) hrn (by rw [e58]; exact hT.2.2.1) j1 f2 j2).mono ?_⟩
    rintro r M' ⟨rfl, σ2, rfl, f3, f4⟩
    have e60 : σ2 60 = stR V nS (rwN (nDV V nS) x) := by
      funext j
      rw [f4 j]
      unfold stR
      by_cases w : 4 ≤ j ∧ j < 4 + nS
      · rw [if_pos w, if_pos w, j3 j (by omega)]
      · rw [if_neg w, if_neg w]; exact j4 j w
    have hs2 : seS σ0 σ2 := hs1.tr (seS.one f3 (by decide))
    have hI2 : seI σ2 V nA nS s := ⟨by rw [f3 56 (by decide)]; exact j1, by rw [f3 66 (by decide)]; exact j2, by rw [f3 62 (by decide)]; exact j3, fun j hj => by rw [f4 j, if_neg hj]; exact j4 j hj, by rw [f3 56 (by decide)]; exact j5, by rw [f3 68 (by decide)]; exact j6⟩
    have e58' : σ2 58 = V 2 := by rw [f3 58 (by decide)]; exact e58
    simp only [fi_const, fi_iload, fi_aload, fi_istore, fi_astore, fi_iinc, fi_bin, fi_div, fi_un, fi_dup, fi_dup2, fi_pop, fi_if, fi_cmp, fi_getf, fi_putf, fi_putr, fi_ald, fi_ast, fi_alen, fi_iret, fi_zret, fi_vret, fi_cut, fi_no, fi_s0, fi_s1, fi_s2, fi_s3, fi_s4, fi_v0, fi_v1, fi_v2, fi_v3, fi_v4, fi_v5, fi_n0, fi_n1, fi_n2, fi_mm, fi_stat, fi_alds, fi_tsw, List.getElem?_cons_zero, List.getElem?_cons_succ, List.set_cons_zero, List.set_cons_succ, List.length_cons, List.length_nil, Option.toList_some, Option.toList_none, List.cons_append, List.nil_append, Value.category, true_and, k_0, k_1, k_2, k_3, k_4, false_implies, true_implies, reduceCtorEq, hM.1]
    refine ⟨by decide, ⟨_, rfl⟩, (c_isRested hM hn (by rw [show 56 + 2 = 58 from rfl, e58']; exact hT.2.2.1)).mono ?_⟩
    rintro r M' ⟨rfl, rfl⟩
    rw [show 56 + 4 = 60 from rfl, show 56 + 2 = 58 from rfl, e58', e60]
    simp only [fi_const, fi_iload, fi_aload, fi_istore, fi_astore, fi_iinc, fi_bin, fi_div, fi_un, fi_dup, fi_dup2, fi_pop, fi_if, fi_cmp, fi_getf, fi_putf, fi_putr, fi_ald, fi_ast, fi_alen, fi_iret, fi_zret, fi_vret, fi_cut, fi_no, fi_s0, fi_s1, fi_s2, fi_s3, fi_s4, fi_v0, fi_v1, fi_v2, fi_v3, fi_v4, fi_v5, fi_n0, fi_n1, fi_n2, fi_mm, fi_stat, fi_alds, fi_tsw, List.getElem?_cons_zero, List.getElem?_cons_succ, List.set_cons_zero, List.set_cons_succ, List.length_cons, List.length_nil, Option.toList_some, Option.toList_none, List.cons_append, List.nil_append, Value.category, true_and, k_0, k_1, k_2, k_3, k_4, false_implies, true_implies, reduceCtorEq, bI_eq0, hM.1, nI_1]
    refine ⟨fun w => skip σ2 z hs2 hI2 (stp_bad (by unfold gdV; rw [hpm]; exact w)), fun w => ?_⟩
    have hgd : gdV V nS x = true := by
      unfold gdV
      rw [hpm]
      cases v : rsM (pnF (fr_ (stR V nS (rwN (nDV V nS) x)) 4) (v_ni V) nS) (fun e => caF (fr_ (stR V nS (rwN (nDV V nS) x)) 4) (v_ca V) e nS) 11 0
      · exact absurd v w
      · rfl
    refine ⟨by decide, ⟨_, rfl⟩, (v_cost hM hT e58' (fun i hi => by rw [e60]; unfold stR; rw [if_neg (by omega)])).mono ?_⟩
    rintro r M' ⟨rfl, σ3, rfl, hc3⟩
    have ev : coV V nA nS (fr_ (σ2 60) 4) = nI (ccV V nA nS x) := by
      obtain ⟨c, hc, e⟩ := coV_le hT hN (fr_ (stR V nS (rwN (nDV V nS) x)) 4)
      rw [e60]
      unfold ccV
      rw [e, nI_clamp (by omega)]
    rw [ev]
    have c3 : ∀ a, a ≠ 64 → a ≠ 56 → σ3 a = σ2 a := fun a h1 h2 => csS.cell hc3 h1 h2
    have k31 : σ3 56 31 = σ2 56 31 := hc3 56 31 (by decide) (by omega)
    have k32 : σ3 56 32 = σ2 56 32 := hc3 56 32 (by decide) (by omega)
    have hs3 : seS σ0 σ3 := hs2.tr (seS.cs hc3)
    obtain ⟨l1, l2, l3, l4, l5, l6⟩ := id hI2
    have hI3 : seI σ3 V nA nS s := ⟨by rw [k31]; exact l1, by rw [c3 66 (by decide) (by decide)]; exact l2, by rw [c3 62 (by decide) (by decide)]; exact l3, by rw [c3 60 (by decide) (by decide)]; exact l4, by rw [k32]; exact l5, by rw [c3 68 (by decide) (by decide)]; exact l6⟩
    have r67 : ∀ i, i < nDV V nS → σ3 67 i = nI (rwN (nDV V nS) x i) := fun i hi => by rw [c3 67 (by decide) (by decide), f3 67 (by decide)]; exact f2 i hi
    have go : stp (gdV V nS) (ccV V nA nS) s x = some x → fs_R g m_X9_searches d (0, 0) 161 [.ref 56, z1, .int (nI (nDV V nS ^ nDV V nS)), .int (nI x), .int (nI (ccV V nA nS x))] [] ((S, fr), σ3, τ) (fun r M' => r = some (.int (match sfd (gdV V nS) (ccV V nA nS) (m + 1) x s with | none => -1 | some k => nI (ccV V nA nS k))) ∧ ∃ σ', M' = ((S, fr), σ', τ) ∧ seS σ0 σ' ∧ seI σ' V nA nS (sfd (gdV V nS) (ccV V nA nS) (m + 1) x s) ∧ σ' 60 = V 4) := by
      intro e
      have e2 : sfd (gdV V nS) (ccV V nA nS) (m + 1) x s = sfd (gdV V nS) (ccV V nA nS) m (x + 1) (some x) := by simp only [sfd]; rw [e]
      rw [e2]
      refine S_X9_searches_161 ?_
      simp only [T_X9_searches_161, fi_const, fi_iload, fi_aload, fi_istore, fi_astore, fi_iinc, fi_bin, fi_div, fi_un, fi_dup, fi_dup2, fi_pop, fi_if, fi_cmp, fi_getf, fi_putf, fi_putr, fi_ald, fi_ast, fi_alen, fi_iret, fi_zret, fi_vret, fi_cut, fi_no, fi_s0, fi_s1, fi_s2, fi_s3, fi_s4, fi_v0, fi_v1, fi_v2, fi_v3, fi_v4, fi_v5, fi_n0, fi_n1, fi_n2, fi_mm, fi_stat, fi_alds, fi_tsw, List.getElem?_cons_zero, List.getElem?_cons_succ, List.set_cons_zero, List.set_cons_succ, List.length_cons, List.length_nil, Option.toList_some, Option.toList_none, List.cons_append, List.nil_append, Value.category, true_and, k_0, k_1, k_2, k_3, k_4, false_implies, true_implies, reduceCtorEq, hM.1]
      refine ⟨by decide, (c_copiesL (a := 67) (b := 68) (L := 7) (by decide) (by decide) hM.2.2.2.2.2.2.2.2.2.2.2.1 hM.2.2.2.2.2.2.2.2.2.2.2.2).mono ?_⟩
      rintro r M' ⟨rfl, σ4, rfl, t1, t2⟩
      simp only [fi_const, fi_iload, fi_aload, fi_istore, fi_astore, fi_iinc, fi_bin, fi_div, fi_un, fi_dup, fi_dup2, fi_pop, fi_if, fi_cmp, fi_getf, fi_putf, fi_putr, fi_ald, fi_ast, fi_alen, fi_iret, fi_zret, fi_vret, fi_cut, fi_no, fi_s0, fi_s1, fi_s2, fi_s3, fi_s4, fi_v0, fi_v1, fi_v2, fi_v3, fi_v4, fi_v5, fi_n0, fi_n1, fi_n2, fi_mm, fi_stat, fi_alds, fi_tsw, List.getElem?_cons_zero, List.getElem?_cons_succ, List.set_cons_zero, List.set_cons_succ, List.length_cons, List.length_nil, Option.toList_some, Option.toList_none, List.cons_append, List.nil_append, Value.category, true_and, k_0, k_1, k_2, k_3, k_4, false_implies, true_implies, reduceCtorEq, nI_1]
      obtain ⟨n1, n2, n3, n4, n5, n6⟩ := id hI3
      have u56 : ∀ b, b ≠ 32 → σ4 56 b = σ3 56 b := fun b hb => by rw [t1 56 (by decide)]; simp only [fs_u]; rw [if_neg (fun v => hb v.2)]
      have uc : ∀ a, a ≠ 56 → a ≠ 68 → σ4 a = σ3 a := fun a h1 h2 => by rw [t1 a h2, fs_u_ne h1]
      refine l_sea101 hX hT hN h7 h0 m (x + 1) (some x) σ4 _ (by omega) ((hs3.tr (seS.fld (b := 32) (x := nI (ccV V nA nS x)) (by decide))).tr (seS.one t1 (by decide))) ⟨by rw [u56 31 (by decide)]; exact n1, by rw [uc 66 (by decide) (by decide)]; exact n2, by rw [uc 62 (by decide) (by decide)]; exact n3, by rw [uc 60 (by decide) (by decide)]; exact n4, by rw [t1 56 (by decide), u_eq], fun k hk i hi => ?_⟩
      cases hk
      rw [t2 i, if_pos (by omega), fs_u_ne (by decide)]
      exact r67 i hi
    simp only [fi_const, fi_iload, fi_aload, fi_istore, fi_astore, fi_iinc, fi_bin, fi_div, fi_un, fi_dup, fi_dup2, fi_pop, fi_if, fi_cmp, fi_getf, fi_putf, fi_putr, fi_ald, fi_ast, fi_alen, fi_iret, fi_zret, fi_vret, fi_cut, fi_no, fi_s0, fi_s1, fi_s2, fi_s3, fi_s4, fi_v0, fi_v1, fi_v2, fi_v3, fi_v4, fi_v5, fi_n0, fi_n1, fi_n2, fi_mm, fi_stat, fi_alds, fi_tsw, List.getElem?_cons_zero, List.getElem?_cons_succ, List.set_cons_zero, List.set_cons_succ, List.length_cons, List.length_nil, Option.toList_some, Option.toList_none, List.cons_append, List.nil_append, Value.category, true_and, k_0, k_1, k_2, k_3, k_4, false_implies, true_implies, reduceCtorEq, hM.1, nI_1]
    cases s with
    | none =>
      have e5 : σ3 56 32 = -1 := hI3.2.2.2.2.1
      rw [e5]
      refine ⟨fun _ => go (by unfold stp; rw [if_pos hgd]), fun z => absurd rfl z⟩
    | some k =>
      have e5 : σ3 56 32 = nI (ccV V nA nS k) := hI3.2.2.2.2.1
      have hk1 := cc_le (nA := nA) hT hN k
      have hk2 := cc_le (nA := nA) hT hN x
      rw [e5]
      refine ⟨fun z => absurd z (nI_m1 (by omega)), fun _ => ?_⟩
      refine pk_lt (ccV V nA nS x) (ccV V nA nS k) (fun v => go ?_) (fun v => skip σ3 _ hs3 hI3 (stp_dear (fun _ => v)))
      unfold stp
      rw [if_pos hgd]
      simp only
      rw [if_pos v]
theorem c_searches (hX : shX S) (hT : okT V nL nA nS) (hN : okN V nS (V 4)) (h : IM σ V kp nb) : fs_Ct g m_X9_searches [.ref 56] ((S, fr), σ, τ) (fun r M' => r = some (.int (bcV V nA nS)) ∧ ∃ σ', M' = ((S, fr), σ', τ) ∧ seS σ σ' ∧ σ' 60 = V 4 ∧ (nDV V nS ≤ 7 → seI σ' V nA nS (bsV V nA nS))) := by
  have hM := hX.m
  have hn := hT.2.2.2.2.2.1
  refine fs_enterC (by decide) (by simp [fs_ok]) (Nat.le_of_ble_eq_true rfl) (fun d => S_X9_searches_0 ?_)
  show T_X9_searches_0 g d _ [.ref 56, .null, .null, .null, .null] [] _
  simp only [T_X9_searches_0, fi_const, fi_iload, fi_aload, fi_istore, fi_astore, fi_iinc, fi_bin, fi_div, fi_un, fi_dup, fi_dup2, fi_pop, fi_if, fi_cmp, fi_getf, fi_putf, fi_putr, fi_ald, fi_ast, fi_alen, fi_iret, fi_zret, fi_vret, fi_cut, fi_no, fi_s0, fi_s1, fi_s2, fi_s3, fi_s4, fi_v0, fi_v1, fi_v2, fi_v3, fi_v4, fi_v5, fi_n0, fi_n1, fi_n2, fi_mm, fi_stat, fi_alds, fi_tsw, List.getElem?_cons_zero, List.getElem?_cons_succ, List.set_cons_zero, List.set_cons_succ, List.length_cons, List.length_nil, Option.toList_some, Option.toList_none, List.cons_append, List.nil_append, Value.category, true_and, k_0, k_1, k_2, k_3, k_4, false_implies, true_implies, reduceCtorEq]
  refine l_sea4 (V := V) hM hn 12 0 σ .null .null rfl (by rw [h.1]; exact hT.2.2.1) h.2.1 (fun e he => by omega) (fun σ1 f1 => ⟨fun q => ?_, fun h7 q => ?_⟩)
  · refine ⟨by unfold bcV; rw [if_pos q], σ1, rfl, seS.one f1 (by decide), by rw [f1 60 (by decide)]; exact h.2.1, fun z => by omega⟩
  · have hb : nDV V nS ^ nDV V nS ≤ 7 ^ 7 := Nat.le_trans (Nat.pow_le_pow_left h7 _) (Nat.pow_le_pow_right (by decide) h7)
    refine (c_copies (a := 60) (b := 62) (by decide) hM.2.2.2.2.1 hM.2.2.2.2.2.2.1).mono ?_
    rintro r M' ⟨rfl, σ2, rfl, f2, f3⟩
    refine ⟨rfl, ?_⟩
    have e31 : σ2 56 31 = nI (nDV V nS) := by rw [f2 56 (by decide), u_eq]
    have h60 : σ1 60 = V 4 := by rw [f1 60 (by decide)]; exact h.2.1
    have s2 : seS σ σ2 := ((seS.one f1 (by decide)).tr (seS.fld (b := 31) (x := nI (nDV V nS)) (by decide))).tr (seS.one f2 (by decide))
    have := l_sea73 (g := g) (d := d) (fr := fr) (τ := τ) (n := nDV V nS) (z1 := .int (nI (nDV V nS))) (z2 := .null) (Q := fun r M' => r = some (.int (bcV V nA nS)) ∧ ∃ σ', M' = ((S, fr), σ', τ) ∧ seS σ σ' ∧ σ' 60 = V 4 ∧ (nDV V nS ≤ 7 → seI σ' V nA nS (bsV V nA nS))) hM h7 e31 ?_ (nDV V nS) 0 (by omega)
    · rw [Nat.pow_zero] at this
      exact this
    · refine fs_R_mono (l_sea101 (nA := nA) hX hT hN h7 h (nDV V nS ^ nDV V nS) 0 none (fs_u σ2 56 32 (-1)) .null (by omega) (s2.tr (seS.fld (b := 32) (x := -1) (by decide))) ⟨?_, ?_, ?_, ?_, u_eq .., fun m hm => by cases hm⟩) ?_
      · simp only [fs_u]; rw [if_neg (by decide)]; exact e31
      · rw [fs_u_ne (by decide), f2 66 (by decide), fs_u_ne (by decide)]; exact q
      · intro j hj; rw [fs_u_ne (by decide), f3 j, if_pos hj, fs_u_ne (by decide), h60]
      · intro j hj; rw [fs_u_ne (by decide), f2 60 (by decide), fs_u_ne (by decide), h60]
      · rintro r M' ⟨rfl, σ', rfl, t1, t2, t3⟩
        refine ⟨?_, σ', rfl, t1, t3, fun _ => t2⟩
        unfold bcV bsV
        rw [if_neg (by omega)]
        cases sfd (gdV V nS) (ccV V nA nS) (nDV V nS ^ nDV V nS) 0 none <;> rfl
end PS8
