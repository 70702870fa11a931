/-! ===== settings, both sides ===== -/
def leS (s : Nat) : Int32 := ([1, 0, 0, 1] : List Int32).getD s 0
def moS (s : Nat) : Int32 := ([99, 9999, 100, 12] : List Int32).getD s 0
/-- a value fits a setting -/
abbrev fitS (s : Nat) (v : Int32) : Prop := ¬ v < leS s ∧ ¬ moS s < v
def snN (N : Nat → Int32) (s : Nat) (v : Int32) : Nat → Int32 := fun j => if j = s then v else N j
/-- no day is longer than v -/
def capOK (V : Vt) (nS : Nat) (v : Int32) : Prop := ∀ e, e < 12 → leF (v_dy V) (v_le V) e nS ≤ v
theorem mxF_le {le : Nat → Int32} {v : Int32} : ∀ n k m, mxF le n k m ≤ v ↔ m ≤ v ∧ ∀ e, k ≤ e → e < k + n → le e ≤ v
  | 0, k, m => by simp only [mxF]; exact ⟨fun h => ⟨h, fun e h1 h2 => by omega⟩, fun h => h.1⟩
  | n + 1, k, m => by
    simp only [mxF]
    rw [mxF_le n (k + 1)]
    have key : (if m < le k then le k else m) ≤ v ↔ m ≤ v ∧ le k ≤ v := by
      split
      · rename_i q
        rw [Int32.lt_iff_toInt_lt] at q
        simp only [Int32.le_iff_toInt_le]
        omega
      · rename_i q
        rw [Int32.lt_iff_toInt_lt] at q
        simp only [Int32.le_iff_toInt_le]
        omega
    rw [key]
    constructor
    · rintro ⟨⟨h1, h2⟩, h3⟩
      refine ⟨h1, fun e h4 h5 => ?_⟩
      by_cases q : e = k
      · rw [q]; exact h2
      · exact h3 e (by omega) (by omega)
    · rintro ⟨h1, h2⟩
      exact ⟨⟨h1, h2 k (by omega) (by omega)⟩, fun e h3 h4 => h2 e (by omega) (by omega)⟩
theorem fit_nat {s : Nat} {v : Int32} (hs : s < 4) (h : fitS s v) : ∃ c : Nat, v = nI c ∧ c ≤ 9999 ∧ (leS s).toNatClampNeg ≤ c ∧ c ≤ (moS s).toNatClampNeg := by
  obtain ⟨h1, h2⟩ := h
  have h0 : ¬ v < 0 := by
    intro z
    apply h1
    match s, hs with
    | 0, _ => exact Int32.lt_trans z (by decide)
    | 1, _ => exact z
    | 2, _ => exact z
    | 3, _ => exact Int32.lt_trans z (by decide)
  obtain ⟨c, hc, rfl⟩ := nI_of h0
  refine ⟨c, rfl, ?_⟩
  match s, hs with
  | 0, _ =>
    have h1 : ¬ nI c < nI 1 := h1
    have h2 : ¬ nI 99 < nI c := h2
    rw [nI_ltI hc (by decide)] at h1
    rw [nI_ltI (by decide) hc] at h2
    exact ⟨by omega, show 1 ≤ c by omega, show c ≤ 99 by omega⟩
  | 1, _ =>
    have h2 : ¬ nI 9999 < nI c := h2
    rw [nI_ltI (by decide) hc] at h2
    exact ⟨by omega, show 0 ≤ c by omega, show c ≤ 9999 by omega⟩
  | 2, _ =>
    have h2 : ¬ nI 100 < nI c := h2
    rw [nI_ltI (by decide) hc] at h2
    exact ⟨by omega, show 0 ≤ c by omega, show c ≤ 100 by omega⟩
  | 3, _ =>
    have h1 : ¬ nI c < nI 1 := h1
    have h2 : ¬ nI 12 < nI c := h2
    rw [nI_ltI hc (by decide)] at h1
    rw [nI_ltI (by decide) hc] at h2
    exact ⟨by omega, show 1 ≤ c by omega, show c ≤ 12 by omega⟩
section PC8
variable {g : fs_G} {d : Nat} {S : List fs_Sh} {fr : Bool} {σ : Nat → Nat → Int32} {τ : Nat → Nat → Int64} {V : Vt} {nL nA nS kp nb : Nat}
theorem okN_set (hN : okN V nS (V 4)) {s : Nat} (hs : s < 4) {v : Int32} (hf : fitS s v) : okN V nS (snN (V 4) s v) := by
  obtain ⟨h1, h2, h3, h4, h5, h6, h7⟩ := hN
  obtain ⟨c, rfl, -, l1, l2⟩ := fit_nat hs hf
  have e : fr_ (snN (V 4) s (nI c)) 4 = fr_ (V 4) 4 := by
    funext j; simp only [fr_, snN]; rw [if_neg (by omega)]
  have e4 : ∀ k, snN (V 4) s (nI c) (4 + k) = V 4 (4 + k) := fun k => congrFun e k
  unfold okN
  simp only [e, e4]
  refine ⟨?_, ?_, ?_, ?_, h5, h6, h7⟩
  · by_cases q : 0 = s
    · subst q; exact ⟨c, l1, l2, rfl⟩
    · simp only [snN, if_neg q]; exact h1
  · by_cases q : 1 = s
    · subst q; exact ⟨c, l2, rfl⟩
    · simp only [snN, if_neg q]; exact h2
  · by_cases q : 2 = s
    · subst q; exact ⟨c, l2, rfl⟩
    · simp only [snN, if_neg q]; exact h3
  · by_cases q : 3 = s
    · subst q; exact ⟨c, l1, l2, rfl⟩
    · simp only [snN, if_neg q]; exact h4
theorem c_fits {s : Nat} (hs : s < 4) (v : Int32) {M : fs_M} : fs_Ct g m_X8_fitsSetting [.int (nI s), .int v] M (fun r M' => r = some (.int (bI (decide (fitS s v)))) ∧ M = M') := by
  have hi : vp_in (nI s) 4 := vp_in_nI hs (by decide)
  refine fs_enterC (by decide) (by simp [fs_ok]) (Nat.le_of_ble_eq_true rfl) (fun d => S_X8_fitsSetting_0 ?_)
  show T_X8_fitsSetting_0 g d _ [.int (nI s), .int v] [] _
  simp only [T_X8_fitsSetting_0, fi_const, fi_iload, fi_aload, fi_istore, fi_astore, fi_iinc, fi_bin, fi_div, fi_un, fi_dup, fi_dup2, fi_pop, fi_if, fi_cmp, fi_getf, fi_putf, fi_putr, fi_ald, fi_ast, fi_alen, fi_iret, fi_zret, fi_vret, fi_cut, fi_no, fi_s0, fi_s1, fi_s2, fi_s3, fi_s4, fi_v0, fi_v1, fi_v2, fi_v3, fi_v4, fi_v5, fi_n0, fi_n1, fi_n2, fi_mm, fi_stat, fi_alds, fi_tsw, List.getElem?_cons_zero, List.getElem?_cons_succ, List.set_cons_zero, List.set_cons_succ, List.length_cons, List.length_nil, Option.toList_some, Option.toList_none, List.cons_append, List.nil_append, Value.category, true_and, k_0, k_1, k_2, k_3, k_4, false_implies, true_implies, reduceCtorEq]
  simp only [fi_stat, fi_alds, fi_const, fi_iload, fi_aload, fi_istore, fi_astore, fi_iinc, fi_bin, fi_div, fi_un, fi_dup, fi_dup2, fi_pop, fi_if, fi_cmp, fi_getf, fi_putf, fi_putr, fi_ald, fi_ast, fi_alen, fi_iret, fi_zret, fi_vret, fi_cut, fi_no, fi_s0, fi_s1, fi_s2, fi_s3, fi_s4, fi_v0, fi_v1, fi_v2, fi_v3, fi_v4, fi_v5, fi_n0, fi_n1, fi_n2, fi_mm, fi_stat, fi_alds, fi_tsw, List.getElem?_cons_zero, List.getElem?_cons_succ, List.set_cons_zero, List.set_cons_succ, List.length_cons, List.length_nil, Option.toList_some, Option.toList_none, List.cons_append, List.nil_append, Value.category, true_and, k_0, k_1, k_2, k_3, k_4, false_implies, true_implies, reduceCtorEq, hi, nI_clamp (show s < 2 ^ 31 by omega)]
  refine ⟨fun q => ?_, fun q => ⟨fun q2 => ?_, fun q2 => ?_⟩⟩
  · rw [decide_eq_false (fun z => z.1 q)]; simp [bI]
  · rw [decide_eq_false (fun z => z.2 q2)]; simp [bI]
  · rw [decide_eq_true (show fitS s v from ⟨q, q2⟩)]; simp [bI]
theorem l_set36 (hX : shX S) (hS : shS S) (hV : okV V nL nA nS kp nb) (h : IC σ V nL nA nS kp nb) {s : Nat} (hs : s < 4) {v : Int32} (hf : fitS s v) (z : Value) : fs_R g m_X8_setSetting d (0, 0) 36 [.ref 0, .int (nI s), .int v, z] [] ((S, fr), σ, τ) (fun r M' => r = some (.int (V 4 s)) ∧ ∃ σ', M' = ((S, fr), σ', τ) ∧ IC σ' (chV V kp (snN (V 4) s v)) nL nA nS (k0 kp + 1) nb ∧ ∀ a, 56 ≤ a → σ' a = σ a) := by
  obtain ⟨hT, hN, h9, hkp, -⟩ := id hV
  have hP := hX.2.2.1
  have hH := hX.2.2.2.2.2.1
  have hi : vp_in (nI s) 4 := vp_in_nI hs (by decide)
  have hV' := okV_ch hV (okN_set hN hs hf)
  refine S_X8_setSetting_36 ?_
  simp only [T_X8_setSetting_36, fi_const, fi_iload, fi_aload, fi_istore, fi_astore, fi_iinc, fi_bin, fi_div, fi_un, fi_dup, fi_dup2, fi_pop, fi_if, fi_cmp, fi_getf, fi_putf, fi_putr, fi_ald, fi_ast, fi_alen, fi_iret, fi_zret, fi_vret, fi_cut, fi_no, fi_s0, fi_s1, fi_s2, fi_s3, fi_s4, fi_v0, fi_v1, fi_v2, fi_v3, fi_v4, fi_v5, fi_n0, fi_n1, fi_n2, fi_mm, fi_stat, fi_alds, fi_tsw, List.getElem?_cons_zero, List.getElem?_cons_succ, List.set_cons_zero, List.set_cons_succ, List.length_cons, List.length_nil, Option.toList_some, Option.toList_none, List.cons_append, List.nil_append, Value.category, true_and, k_0, k_1, k_2, k_3, k_4, false_implies, true_implies, reduceCtorEq, hX.1]
  refine ⟨by decide, ⟨_, hH⟩, (c_keep hX hkp h.2.2.2.2.2.2.2.1).mono ?_⟩
  rintro r M' ⟨rfl, σ2, rfl, hs2, s1, s2⟩
  simp only [fi_const, fi_iload, fi_aload, fi_istore, fi_astore, fi_iinc, fi_bin, fi_div, fi_un, fi_dup, fi_dup2, fi_pop, fi_if, fi_cmp, fi_getf, fi_putf, fi_putr, fi_ald, fi_ast, fi_alen, fi_iret, fi_zret, fi_vret, fi_cut, fi_no, fi_s0, fi_s1, fi_s2, fi_s3, fi_s4, fi_v0, fi_v1, fi_v2, fi_v3, fi_v4, fi_v5, fi_n0, fi_n1, fi_n2, fi_mm, fi_stat, fi_alds, fi_tsw, List.getElem?_cons_zero, List.getElem?_cons_succ, List.set_cons_zero, List.set_cons_succ, List.length_cons, List.length_nil, Option.toList_some, Option.toList_none, List.cons_append, List.nil_append, Value.category, true_and, k_0, k_1, k_2, k_3, k_4, false_implies, true_implies, reduceCtorEq, hX.1, hP.1, hP.2.2.2.2.2.2.2.2.2.2.2, nI_clamp (show s < 2 ^ 31 by omega), hi, show 2 + 11 = 13 from rfl]
  have h3 : IC0 (fs_u σ2 13 s v) (chV V kp (snN (V 4) s v)) nL nA nS (k0 kp + 1) nb := by
    refine IC0_ch h hkp hs2 s1 s2 (fun a _ _ h1 => fs_u_ne h1) (fun j hj => ?_) (fun i hi => ?_)
    · rw [fs_u_ne (by decide), hs2 12 (by omega)]
      simp only [snN]
      rw [if_neg (by omega)]
      exact h.2.2.2.2.1 j hj
    · simp only [fs_u, snN]
      by_cases q : i = s
      · rw [if_pos ⟨trivial, q⟩, if_pos q]
      · rw [if_neg (fun z => q z.2), if_neg q, hs2 13 (by omega)]
        exact h.set hi
  refine ⟨by decide, ⟨_, rfl⟩, (c_refresh hX hS hV'.1 hV'.2.1 h3).mono ?_⟩
  rintro r M' ⟨rfl, σ4, rfl, h4, hs4⟩
  simp only [fi_const, fi_iload, fi_aload, fi_istore, fi_astore, fi_iinc, fi_bin, fi_div, fi_un, fi_dup, fi_dup2, fi_pop, fi_if, fi_cmp, fi_getf, fi_putf, fi_putr, fi_ald, fi_ast, fi_alen, fi_iret, fi_zret, fi_vret, fi_cut, fi_no, fi_s0, fi_s1, fi_s2, fi_s3, fi_s4, fi_v0, fi_v1, fi_v2, fi_v3, fi_v4, fi_v5, fi_n0, fi_n1, fi_n2, fi_mm, fi_stat, fi_alds, fi_tsw, List.getElem?_cons_zero, List.getElem?_cons_succ, List.set_cons_zero, List.set_cons_succ, List.length_cons, List.length_nil, Option.toList_some, Option.toList_none, List.cons_append, List.nil_append, Value.category, true_and, k_0, k_1, k_2, k_3, k_4, false_implies, true_implies, reduceCtorEq]
  refine ⟨congrArg _ (congrArg _ ?_), σ4, rfl, h4, fun a ha => ?_⟩
  · rw [hs2 13 (by omega)]; exact h.set hs
  · rw [hs4 a ha, fs_u_ne (by omega), hs2 a (by omega)]
end PC8
