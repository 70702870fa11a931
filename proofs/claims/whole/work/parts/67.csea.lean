/-! ===== the search of the class ===== -/
def DI (σ0 σ : Nat → Nat → Int32) (V : Vt) (nA nS : Nat) (pr : Nat → Nat) (p : Nat) : Prop := same σ0 σ (fun a => 50 ≤ a ∧ a ≤ 55) ∧ σ 50 0 = nI (nDV V nS) ∧ σ 50 4 = 1 ∧ (∀ i, i < nDV V nS → σ 52 i = nI (owV V nS i)) ∧ (∀ i, i < p → σ 53 i = nI (owV V nS (pr i))) ∧ (∀ a, a < nA → σ 54 a = nI (wN (wkO V nS pr a) p)) ∧ ∀ w, w < 128 → σ 55 w = nI (hcN (drN V) w)
def stS (σ : Nat → Nat → Int32) (V : Vt) (nA nS : Nat) (s : Option Nat) : Prop := σ 50 5 = (match s with | none => -1 | some m => nI (ccV V nA nS m)) ∧ ∀ m, s = some m → ∀ i, i < nDV V nS → σ 51 i = nI (owV V nS (rwN (nDV V nS) m i))
def PR (V : Vt) (nS : Nat) (pr : Nat → Nat) (p a r : Nat) : Prop := (∀ i, i < p → pr i < nDV V nS) ∧ (∀ i, i < p → inS pr i (pr i) = false) ∧ (∀ i, i + 1 < p → ¬ clO V nS (pr i) (pr (i + 1))) ∧ ∀ x, a * nDV V nS ^ r ≤ x → x < (a + 1) * nDV V nS ^ r → ∀ i, i < p → rwN (nDV V nS) x i = pr i
def prX (pr : Nat → Nat) (p j : Nat) : Nat → Nat := fun i => if i = p then j else pr i
theorem prX_lt {pr : Nat → Nat} {p j i : Nat} (h : i < p) : prX pr p j i = pr i := if_neg (by omega)
theorem prX_at (pr : Nat → Nat) (p j : Nat) : prX pr p j p = j := if_pos rfl
section PS2
variable {g : fs_G} {d : Nat} {S : List fs_Sh} {fr : Bool} {σ σ0 : Nat → Nat → Int32} {τ : Nat → Nat → Int64} {V : Vt} {nL nA nS kp nb : Nat}
theorem DI.lo {pr : Nat → Nat} {p : Nat} (h : DI σ0 σ V nA nS pr p) {a : Nat} (ha : a < 50) : σ a = σ0 a := h.1 a (by omega)
theorem l_hold (hX : shX S) (hS : shS S) (hT : okT V nL nA nS) (hN : okN V nS (V 4)) (h0 : IC σ0 V nL nA nS kp nb) {pr : Nat → Nat} {p : Nat} (hp : p ≤ 7) (h : DI σ0 σ V nA nS pr p) : ∀ m k, k + m = nA → fs_R g m_X3_holdingSoFar d (0, 0) 4 [.ref 50, .int (nI (smN (fun a => hfN V a * hcN (drN V) (wN (wkO V nS pr a) p)) k)), .int (nI k)] [] ((S, fr), σ, τ) (fun r M' => r = some (.int (nI (hoP V nA nS pr p))) ∧ ((S, fr), σ, τ) = M')
  | 0, k, hk => by
    have hP := hX.2.2.1
    have hA := hT.2.2.2.2.1
    have e4 : σ 2 4 = nI nA := by rw [h.lo (by decide)]; exact h0.1.2.1
    refine S_X3_holdingSoFar_4 ?_
    simp only [T_X3_holdingSoFar_4, fi_const, fi_iload, fi_aload, fi_istore, fi_astore, fi_iinc, fi_bin, fi_div, fi_un, fi_dup, fi_dup2, fi_pop, fi_if, fi_cmp, fi_getf, fi_putf, fi_putr, fi_ald, fi_ast, fi_alen, fi_iret, fi_zret, fi_vret, fi_cut, fi_no, fi_s0, fi_s1, fi_s2, fi_s3, fi_s4, fi_v0, fi_v1, fi_v2, fi_v3, fi_v4, fi_v5, fi_n0, fi_n1, fi_n2, fi_mm, fi_stat, fi_alds, fi_tsw, List.getElem?_cons_zero, List.getElem?_cons_succ, List.set_cons_zero, List.set_cons_succ, List.length_cons, List.length_nil, Option.toList_some, Option.toList_none, List.cons_append, List.nil_append, Value.category, true_and, k_0, k_1, k_2, k_3, k_4, false_implies, true_implies, reduceCtorEq, hS.1, hP.1, e4]
    refine pk_le nA k (fun _ => ?_) (fun z => by omega)
    rw [show k = nA by omega]
    exact ⟨rfl, trivial⟩
  | m + 1, k, hk => by
    have hP := hX.2.2.1
    have hA := hT.2.2.2.2.1
    have e4 : σ 2 4 = nI nA := by rw [h.lo (by decide)]; exact h0.1.2.1
    have e5 := h.2.2.2.2.2.1 k (by omega)
    have hw : wN (wkO V nS pr k) p < 128 := Nat.lt_of_lt_of_le (wN_lt _ p) (Nat.pow_le_pow_right (by decide) hp)
    have e6 := h.2.2.2.2.2.2 _ hw
    have i6 : vp_in (nI k) 6 := vp_in_nI (by omega) (by decide)
    have i7 : vp_in (nI (wN (wkO V nS pr k) p)) 128 := vp_in_nI hw (by decide)
    refine S_X3_holdingSoFar_4 ?_
    simp only [T_X3_holdingSoFar_4, fi_const, fi_iload, fi_aload, fi_istore, fi_astore, fi_iinc, fi_bin, fi_div, fi_un, fi_dup, fi_dup2, fi_pop, fi_if, fi_cmp, fi_getf, fi_putf, fi_putr, fi_ald, fi_ast, fi_alen, fi_iret, fi_zret, fi_vret, fi_cut, fi_no, fi_s0, fi_s1, fi_s2, fi_s3, fi_s4, fi_v0, fi_v1, fi_v2, fi_v3, fi_v4, fi_v5, fi_n0, fi_n1, fi_n2, fi_mm, fi_stat, fi_alds, fi_tsw, List.getElem?_cons_zero, List.getElem?_cons_succ, List.set_cons_zero, List.set_cons_succ, List.length_cons, List.length_nil, Option.toList_some, Option.toList_none, List.cons_append, List.nil_append, Value.category, true_and, k_0, k_1, k_2, k_3, k_4, false_implies, true_implies, reduceCtorEq, hS.1, hP.1, e4]
    refine pk_le nA k (fun z => by omega) (fun _ => ⟨by decide, ⟨_, rfl⟩, (c_holdingFeeOf (p := 2) hP (show k < 6 by omega)).mono ?_⟩)
    rintro r M' ⟨rfl, rfl⟩
    have ef : σ (2 + 5) k * σ (2 + 11) 2 / 100 = nI (hfN V k) := by
      rw [h.lo (show 2 + 5 < 50 by decide), h.lo (show 2 + 11 < 50 by decide), show 2 + 5 = 7 from rfl, show 2 + 11 = 13 from rfl, (h0.2.2.1 k (by omega)).2, h0.2.2.2.2.2.1 2 (by decide)]
      exact (hf_yes hT hN (by omega)).1
    simp only [fi_const, fi_iload, fi_aload, fi_istore, fi_astore, fi_iinc, fi_bin, fi_div, fi_un, fi_dup, fi_dup2, fi_pop, fi_if, fi_cmp, fi_getf, fi_putf, fi_putr, fi_ald, fi_ast, fi_alen, fi_iret, fi_zret, fi_vret, fi_cut, fi_no, fi_s0, fi_s1, fi_s2, fi_s3, fi_s4, fi_v0, fi_v1, fi_v2, fi_v3, fi_v4, fi_v5, fi_n0, fi_n1, fi_n2, fi_mm, fi_stat, fi_alds, fi_tsw, List.getElem?_cons_zero, List.getElem?_cons_succ, List.set_cons_zero, List.set_cons_succ, List.length_cons, List.length_nil, Option.toList_some, Option.toList_none, List.cons_append, List.nil_append, Value.category, true_and, k_0, k_1, k_2, k_3, k_4, false_implies, true_implies, reduceCtorEq, hS.1, hP.1, ef, hS.2.2.2.2.1, hS.2.2.2.2.2, nI_clamp (show k < 2 ^ 31 by omega), i6, e5, i7, nI_clamp (show wN (wkO V nS pr k) p < 2 ^ 31 by omega), e6, pk_mul, nI_add, nI_1]
    exact l_hold hX hS hT hN h0 hp h m (k + 1) (by omega)
theorem c_hold (hX : shX S) (hS : shS S) (hT : okT V nL nA nS) (hN : okN V nS (V 4)) (h0 : IC σ0 V nL nA nS kp nb) {pr : Nat → Nat} {p : Nat} (hp : p ≤ 7) (h : DI σ0 σ V nA nS pr p) : fs_Ct g m_X3_holdingSoFar [.ref 50] ((S, fr), σ, τ) (fun r M' => r = some (.int (nI (hoP V nA nS pr p))) ∧ ((S, fr), σ, τ) = M') := by
  refine fs_enterC (by decide) (by simp [fs_ok]) (Nat.le_of_ble_eq_true rfl) (fun d => S_X3_holdingSoFar_0 ?_)
  show T_X3_holdingSoFar_0 g d _ [.ref 50, .null, .null] [] _
  simp only [T_X3_holdingSoFar_0, fi_const, fi_iload, fi_aload, fi_istore, fi_astore, fi_iinc, fi_bin, fi_div, fi_un, fi_dup, fi_dup2, fi_pop, fi_if, fi_cmp, fi_getf, fi_putf, fi_putr, fi_ald, fi_ast, fi_alen, fi_iret, fi_zret, fi_vret, fi_cut, fi_no, fi_s0, fi_s1, fi_s2, fi_s3, fi_s4, fi_v0, fi_v1, fi_v2, fi_v3, fi_v4, fi_v5, fi_n0, fi_n1, fi_n2, fi_mm, fi_stat, fi_alds, fi_tsw, List.getElem?_cons_zero, List.getElem?_cons_succ, List.set_cons_zero, List.set_cons_succ, List.length_cons, List.length_nil, Option.toList_some, Option.toList_none, List.cons_append, List.nil_append, Value.category, true_and, k_0, k_1, k_2, k_3, k_4, false_implies, true_implies, reduceCtorEq]
  exact l_hold hX hS hT hN h0 hp h nA 0 (by omega)
/-- flipWork -/
theorem l_flip (hX : shX S) (hS : shS S) (hT : okT V nL nA nS) (h0 : IC σ0 V nL nA nS kp nb) {j p : Nat} (hj : j < nDV V nS) (hp : p < 7) : ∀ m k σ, k + m = nA → same σ0 σ (fun a => 50 ≤ a ∧ a ≤ 55) → fs_R g m_X3_flipWork d (0, 0) 2 [.ref 50, .int (nI (owV V nS j)), .int (nI p), .int (nI k)] [] ((S, fr), σ, τ) (fun r M' => r = none ∧ ∃ σ', M' = ((S, fr), σ', τ) ∧ (∀ a, a ≠ 54 → σ' a = σ a) ∧ ∀ a, a < nA → σ' 54 a = if k ≤ a ∧ bt (caO V nS j) a = true then σ 54 a ^^^ 1 <<< (nI p &&& 31) else σ 54 a)
  | 0, k, σ, hk, hs => by
    have hP := hX.2.2.1
    have hA := hT.2.2.2.2.1
    have e4 : σ 2 4 = nI nA := by rw [hs 2 (by omega)]; exact h0.1.2.1
    refine S_X3_flipWork_2 ?_
    simp only [T_X3_flipWork_2, fi_const, fi_iload, fi_aload, fi_istore, fi_astore, fi_iinc, fi_bin, fi_div, fi_un, fi_dup, fi_dup2, fi_pop, fi_if, fi_cmp, fi_getf, fi_putf, fi_putr, fi_ald, fi_ast, fi_alen, fi_iret, fi_zret, fi_vret, fi_cut, fi_no, fi_s0, fi_s1, fi_s2, fi_s3, fi_s4, fi_v0, fi_v1, fi_v2, fi_v3, fi_v4, fi_v5, fi_n0, fi_n1, fi_n2, fi_mm, fi_stat, fi_alds, fi_tsw, List.getElem?_cons_zero, List.getElem?_cons_succ, List.set_cons_zero, List.set_cons_succ, List.length_cons, List.length_nil, Option.toList_some, Option.toList_none, List.cons_append, List.nil_append, Value.category, true_and, k_0, k_1, k_2, k_3, k_4, false_implies, true_implies, reduceCtorEq, hS.1, hP.1, e4]
    refine pk_le nA k (fun _ => ?_) (fun z => by omega)
    exact ⟨σ, rfl, fun _ _ => rfl, fun a ha => by rw [if_neg (fun z => by omega)]⟩
  | m + 1, k, σ, hk, hs => by
    have hP := hX.2.2.1
    have hD := hX.2.2.2.1
    have hA := hT.2.2.2.2.1
    have ho := (ow_lt hj).1
    have e4 : σ 2 4 = nI nA := by rw [hs 2 (by omega)]; exact h0.1.2.1
    have e19 : σ 19 (owV V nS j) = caO V nS j := by rw [hs 19 (by omega)]; exact (h0.tb hT.2.2.2.2.2.1 _ ho).2.2.2.2
    have i6 : vp_in (nI k) 6 := vp_in_nI (by omega) (by decide)
    have i12 : vp_in (nI (owV V nS j)) 12 := vp_in_nI ho (by decide)
    refine S_X3_flipWork_2 ?_
    simp only [T_X3_flipWork_2, fi_const, fi_iload, fi_aload, fi_istore, fi_astore, fi_iinc, fi_bin, fi_div, fi_un, fi_dup, fi_dup2, fi_pop, fi_if, fi_cmp, fi_getf, fi_putf, fi_putr, fi_ald, fi_ast, fi_alen, fi_iret, fi_zret, fi_vret, fi_cut, fi_no, fi_s0, fi_s1, fi_s2, fi_s3, fi_s4, fi_v0, fi_v1, fi_v2, fi_v3, fi_v4, fi_v5, fi_n0, fi_n1, fi_n2, fi_mm, fi_stat, fi_alds, fi_tsw, List.getElem?_cons_zero, List.getElem?_cons_succ, List.set_cons_zero, List.set_cons_succ, List.length_cons, List.length_nil, Option.toList_some, Option.toList_none, List.cons_append, List.nil_append, Value.category, true_and, k_0, k_1, k_2, k_3, k_4, false_implies, true_implies, reduceCtorEq, hS.1, hP.1, e4, hD.1, hD.2.2.2.2.2, i12, nI_clamp (show owV V nS j < 2 ^ 31 by omega), show 14 + 5 = 19 from rfl, e19]
    refine pk_le nA k (fun z => by omega) (fun _ => ⟨by decide, (c_has _ (show k < 32 by omega)).mono ?_⟩)
    rintro r M' ⟨rfl, rfl⟩
    simp only [fi_const, fi_iload, fi_aload, fi_istore, fi_astore, fi_iinc, fi_bin, fi_div, fi_un, fi_dup, fi_dup2, fi_pop, fi_if, fi_cmp, fi_getf, fi_putf, fi_putr, fi_ald, fi_ast, fi_alen, fi_iret, fi_zret, fi_vret, fi_cut, fi_no, fi_s0, fi_s1, fi_s2, fi_s3, fi_s4, fi_v0, fi_v1, fi_v2, fi_v3, fi_v4, fi_v5, fi_n0, fi_n1, fi_n2, fi_mm, fi_stat, fi_alds, fi_tsw, List.getElem?_cons_zero, List.getElem?_cons_succ, List.set_cons_zero, List.set_cons_succ, List.length_cons, List.length_nil, Option.toList_some, Option.toList_none, List.cons_append, List.nil_append, Value.category, true_and, k_0, k_1, k_2, k_3, k_4, false_implies, true_implies, reduceCtorEq, bI_eq0, hS.1, hS.2.2.2.2.1, i6, nI_clamp (show k < 2 ^ 31 by omega), nI_1]
    refine ⟨fun q => ?_, fun q => ?_⟩
    · refine fs_R_mono (l_flip hX hS hT h0 hj hp m (k + 1) σ (by omega) hs) ?_
      rintro r M' ⟨rfl, σ', rfl, h1, h2⟩
      refine ⟨rfl, σ', rfl, h1, fun a ha => ?_⟩
      rw [h2 a ha]
      by_cases w : a = k
      · subst w; rw [if_neg (fun z => by omega), if_neg (fun z => by rw [q] at z; exact absurd z.2 (by decide))]
      · have e : (k + 1 ≤ a ∧ bt (caO V nS j) a = true) ↔ (k ≤ a ∧ bt (caO V nS j) a = true) := ⟨fun z => ⟨by omega, z.2⟩, fun z => ⟨by omega, z.2⟩⟩
        simp only [e]
    · have q' : bt (caO V nS j) k = true := by cases w : bt (caO V nS j) k; exact absurd w q; rfl
      refine fs_R_mono (l_flip hX hS hT h0 hj hp m (k + 1) (fs_u σ 54 k (σ 54 k ^^^ 1 <<< (nI p &&& 31))) (by omega) (same_uu hs (by omega))) ?_
      rintro r M' ⟨rfl, σ', rfl, h1, h2⟩
      refine ⟨rfl, σ', rfl, fun a ha => by rw [h1 a ha, fs_u_ne ha], fun a ha => ?_⟩
      rw [h2 a ha]
      by_cases w : a = k
      · subst w; rw [if_neg (fun z => by omega), if_pos ⟨Nat.le_refl _, q'⟩, u_eq]
      · have e : (k + 1 ≤ a ∧ bt (caO V nS j) a = true) ↔ (k ≤ a ∧ bt (caO V nS j) a = true) := ⟨fun z => ⟨by omega, z.2⟩, fun z => ⟨by omega, z.2⟩⟩
        have e2 : fs_u σ 54 k (σ 54 k ^^^ 1 <<< (nI p &&& 31)) 54 a = σ 54 a := by simp only [fs_u]; rw [if_neg (fun z => w z.2)]
        simp only [e, e2]
theorem c_flip (hX : shX S) (hS : shS S) (hT : okT V nL nA nS) (h0 : IC σ0 V nL nA nS kp nb) {j p : Nat} (hj : j < nDV V nS) (hp : p < 7) (hs : same σ0 σ (fun a => 50 ≤ a ∧ a ≤ 55)) : fs_Ct g m_X3_flipWork [.ref 50, .int (nI (owV V nS j)), .int (nI p)] ((S, fr), σ, τ) (fun r M' => r = none ∧ ∃ σ', M' = ((S, fr), σ', τ) ∧ (∀ a, a ≠ 54 → σ' a = σ a) ∧ ∀ a, a < nA → σ' 54 a = if bt (caO V nS j) a = true then σ 54 a ^^^ 1 <<< (nI p &&& 31) else σ 54 a) := by
  refine fs_enterC (by decide) (by simp [fs_ok]) (Nat.le_of_ble_eq_true rfl) (fun d => S_X3_flipWork_0 ?_)
  show T_X3_flipWork_0 g d _ [.ref 50, .int (nI (owV V nS j)), .int (nI p), .null] [] _
  simp only [T_X3_flipWork_0, fi_const, fi_iload, fi_aload, fi_istore, fi_astore, fi_iinc, fi_bin, fi_div, fi_un, fi_dup, fi_dup2, fi_pop, fi_if, fi_cmp, fi_getf, fi_putf, fi_putr, fi_ald, fi_ast, fi_alen, fi_iret, fi_zret, fi_vret, fi_cut, fi_no, fi_s0, fi_s1, fi_s2, fi_s3, fi_s4, fi_v0, fi_v1, fi_v2, fi_v3, fi_v4, fi_v5, fi_n0, fi_n1, fi_n2, fi_mm, fi_stat, fi_alds, fi_tsw, List.getElem?_cons_zero, List.getElem?_cons_succ, List.set_cons_zero, List.set_cons_succ, List.length_cons, List.length_nil, Option.toList_some, Option.toList_none, List.cons_append, List.nil_append, Value.category, true_and, k_0, k_1, k_2, k_3, k_4, false_implies, true_implies, reduceCtorEq]
  refine fs_R_mono (l_flip hX hS hT h0 hj hp nA 0 σ (by omega) hs) ?_
  rintro r M' ⟨rfl, σ', rfl, h1, h2⟩
  exact ⟨rfl, σ', rfl, h1, fun a ha => by rw [h2 a ha]; simp⟩
theorem wk_x {pr : Nat → Nat} {p j a : Nat} (hp : p < 7) : (if bt (caO V nS j) a = true then nI (wN (wkO V nS pr a) p) ^^^ 1 <<< (nI p &&& 31) else nI (wN (wkO V nS pr a) p)) = nI (wN (wkO V nS (prX pr p j) a) (p + 1)) := by
  have e : wN (wkO V nS pr a) p = wN (wkO V nS (prX pr p j) a) p := wN_congr p (fun i hi => by unfold wkO; rw [prX_lt hi])
  have e2 : wkO V nS (prX pr p j) a p = bt (caO V nS j) a := by unfold wkO; rw [prX_at]
  rw [e]
  by_cases q : bt (caO V nS j) a = true
  · rw [if_pos q, wN_x _ (by omega) (e2.trans q)]
  · rw [if_neg q, wN_s _ p (by rw [e2]; simpa using q)]
theorem wk_x2 {pr : Nat → Nat} {p j a : Nat} (hp : p < 7) : (if bt (caO V nS j) a = true then nI (wN (wkO V nS (prX pr p j) a) (p + 1)) ^^^ 1 <<< (nI p &&& 31) else nI (wN (wkO V nS (prX pr p j) a) (p + 1))) = nI (wN (wkO V nS pr a) p) := by
  have e : wN (wkO V nS pr a) p = wN (wkO V nS (prX pr p j) a) p := wN_congr p (fun i hi => by unfold wkO; rw [prX_lt hi])
  have e2 : wkO V nS (prX pr p j) a p = bt (caO V nS j) a := by unfold wkO; rw [prX_at]
  rw [e]
  by_cases q : bt (caO V nS j) a = true
  · rw [if_pos q, wN_x2 _ (by omega) (e2.trans q)]
  · rw [if_neg q, wN_s _ p (by rw [e2]; simpa using q)]
theorem cw_x {pr : Nat → Nat} {p j : Nat} : cwP V nA nS (prX pr p j) (p + 1) = cwP V nA nS pr p + mvN V * (if p = 0 ∨ plO V nS (pr (p - 1)) = plO V nS j then 0 else 1) := by
  have e : cwP V nA nS (prX pr p j) p = cwP V nA nS pr p := (cp_congr (nA := nA) (fun i hi => prX_lt hi)).2.1
  rw [← e]
  unfold cwP mvP
  simp only [smN]
  rw [Nat.mul_add]
  unfold mbV
  by_cases q : p = 0
  · rw [if_pos (Or.inl q), if_pos (Or.inl q)]; omega
  · rw [prX_at, prX_lt (show p - 1 < p by omega)]; omega
theorem cl_iff (hT : okT V nL nA nS) {i j : Nat} : clF (fun e => pnF (v_dy V) (v_ni V) nS e) (fun e => caF (v_dy V) (v_ca V) e nS) (owV V nS i) (owV V nS j) = true ↔ clO V nS i j := by
  have h01 : b01 (v_ni V) nS := hT.2.2.2.2.2.2.2.1
  have a1 : pnO V nS i = 0 ∨ pnO V nS i = 1 := pnF01 h01
  have a2 : pnO V nS j = 0 ∨ pnO V nS j = 1 := pnF01 h01
  show (!decide (pnO V nS i = 0) && decide (pnO V nS j = 0) && !decide (caO V nS i &&& caO V nS j = 0)) = true ↔ _
  unfold clO
  rcases a1 with a1 | a1 <;> rcases a2 with a2 | a2 <;> simp [a1, a2]
theorem PR.next {pr : Nat → Nat} {p a r j : Nat} (h : PR V nS pr p a (r + 1)) (hp : p + (r + 1) = nDV V nS) (hj : j < nDV V nS) (hu : inS pr p j = false) (hc : 0 < p → ¬ clO V nS (pr (p - 1)) j) : PR V nS (prX pr p j) (p + 1) (a * nDV V nS + j) r := by
  obtain ⟨h1, h2, h3, h4⟩ := h
  refine ⟨fun i hi => ?_, fun i hi => ?_, fun i hi => ?_, fun x x1 x2 i hi => ?_⟩
  · by_cases q : i = p
    · rw [q, prX_at]; exact hj
    · rw [prX_lt (by omega)]; exact h1 i (by omega)
  · have e : inS (prX pr p j) i (prX pr p j i) = inS pr i (prX pr p j i) := inS_congr i _ (fun k hk => prX_lt (by omega))
    rw [e]
    by_cases q : i = p
    · rw [q, prX_at]; exact hu
    · rw [prX_lt (by omega)]; exact h2 i (by omega)
  · by_cases q : i + 1 = p
    · rw [prX_lt (show i < p by omega), q, prX_at]
      have := hc (by omega)
      rw [show p - 1 = i by omega] at this
      exact this
    · rw [prX_lt (show i < p by omega), prX_lt (show i + 1 < p by omega)]; exact h3 i (by omega)
  · by_cases q : i = p
    · rw [q, prX_at]; exact rwN_at hp hj x1 x2
    · rw [prX_lt (by omega)]
      obtain ⟨y1, y2⟩ := blk_sub hj x1 x2
      exact h4 x y1 y2 i (by omega)
theorem gd_rep {x i p : Nat} (hp : p < nDV V nS) (hi : i < p) (h : rwN (nDV V nS) x i = rwN (nDV V nS) x p) : gdV V nS x = false := by
  unfold gdV
  cases q : pmB (rwN (nDV V nS) x) (nDV V nS) with
  | false => rfl
  | true => exact absurd (pm_inj q (show i < nDV V nS by omega) hp h) (by omega)
theorem gd_cl (hT : okT V nL nA nS) (hN : okN V nS (V 4)) (h7 : nDV V nS ≤ 7) {x i : Nat} (hi : i + 1 < nDV V nS) (h : clO V nS (rwN (nDV V nS) x i) (rwN (nDV V nS) x (i + 1))) : gdV V nS x = false := by
  unfold gdV
  cases q : pmB (rwN (nDV V nS) x) (nDV V nS) with
  | false => rfl
  | true =>
    cases w : rsM (pnF (fr_ (stR V nS (rwN (nDV V nS) x)) 4) (v_ni V) nS) (fun e => caF (fr_ (stR V nS (rwN (nDV V nS) x)) 4) (v_ca V) e nS) 11 0 with
    | false => rfl
    | true => exact absurd h ((gd_iff hT hN h7 q (fun _ _ => rwN_lt (by omega))).mp w i hi)
theorem cc_cp (hT : okT V nL nA nS) (hN : okN V nS (V 4)) (h7 : nDV V nS ≤ 7) {x : Nat} (h : pmB (rwN (nDV V nS) x) (nDV V nS) = true) : ccV V nA nS x = cpN V nA nS (rwN (nDV V nS) x) (nDV V nS) := by
  have hb := cp_bd (r := rwN (nDV V nS) x) hT hN h7 h7
  unfold ccV
  rw [co_cp hT hN h7 h (fun i hi => rwN_lt (by omega)), nI_clamp (by unfold cpN; omega)]
/-- a prefix that is dear already -/
theorem blk_dear (hT : okT V nL nA nS) (hN : okN V nS (V 4)) (h7 : nDV V nS ≤ 7) {pr : Nat → Nat} {p a r m : Nat} (hp : p + r = nDV V nS) (h : PR V nS pr p a r) (hm : ccV V nA nS m ≤ cpN V nA nS pr p) : sfd (gdV V nS) (ccV V nA nS) (nDV V nS ^ r) (a * nDV V nS ^ r) (some m) = some m := by
  refine sfd_skip _ _ (fun x x1 x2 => stp_dear (fun hg => ?_))
  have hq : pmB (rwN (nDV V nS) x) (nDV V nS) = true := by
    unfold gdV at hg
    exact (Bool.and_eq_true _ _ ▸ hg).1
  rw [cc_cp hT hN h7 hq]
  refine Nat.le_trans hm ?_
  have e := (cp_congr (V := V) (nA := nA) (nS := nS) (fun i hi => (h.2.2.2 x x1 (by rw [Nat.add_mul]; omega) i hi).symm)).1
  rw [e]
  have := cp_le (V := V) (nA := nA) (nS := nS) (r := rwN (nDV V nS) x) hN r p (by omega)
  rw [hp] at this
  exact this
end PS2
