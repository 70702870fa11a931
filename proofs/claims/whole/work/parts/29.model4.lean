/-! ===== the reference: costs ===== -/
theorem fstB_congr {f h : Nat → Bool} : ∀ n k, (∀ j, j < k + n → f j = h j) → fstB f n k = fstB h n k
  | 0, _, _ => rfl
  | n + 1, k, e => by simp only [fstB]; rw [e k (by omega), fstB_congr n (k + 1) (fun j hj => e j (by omega))]
theorem lstB_congr {f h : Nat → Bool} : ∀ n, (∀ j, j < n → f j = h j) → lstB f n = lstB h n
  | 0, _ => rfl
  | n + 1, e => by simp only [lstB]; rw [e n (by omega), lstB_congr n (fun j hj => e j (by omega))]
theorem gpG_congr {f h : Nat → Bool} : ∀ n k gF gL la, (∀ j, j < k + n → f j = h j) → gpG f n k gF gL la = gpG h n k gF gL la
  | 0, _, _, _, _, _ => rfl
  | n + 1, k, gF, gL, la, e => by
    simp only [gpG]
    rw [e k (by omega), gpG_congr n (k + 1) gF gL (nI k) (fun j hj => e j (by omega)), gpG_congr n (k + 1) (la + 1) (nI k - la - 1) (nI k) (fun j hj => e j (by omega)), gpG_congr n (k + 1) gF gL la (fun j hj => e j (by omega))]
theorem gpB_congr {f h : Nat → Bool} (e : ∀ j, j < 12 → f j = h j) : gpB f = gpB h := gpG_congr 12 0 _ _ _ (fun j hj => e j (by omega))
theorem stM_congr {f h : Nat → Bool} {gF gL drop : Int32} (e : ∀ j, j < 12 → f j = h j) {k : Nat} (hk : k < 12) : stM f gF gL drop k = stM h gF gL drop k := by
  unfold stM
  rw [e k hk, fstB_congr 12 0 (fun j hj => e j (by omega)), lstB_congr 12 (fun j hj => e j (by omega))]
theorem dsM_congr {f h : Nat → Bool} {drop its : Int32} (e : ∀ j, j < 12 → f j = h j) : dsM f drop its = dsM h drop its := by
  unfold dsM
  rw [gpB_congr e, ct_congr (fun k hk => by rw [stM_congr e hk])]
def heM (fee hold drop : Int32) (f : Nat → Bool) : Int32 := dsM f drop 2 * (fee * hold / 100)
def prM (fee hold drop : Int32) (f : Nat → Bool) : Int32 := dsM f drop 1 * fee + heM fee hold drop f
def mvM (pl : Nat → Int32) : Nat → Nat → Int32 → Int32 → Int32
  | 0, _, _, c => c
  | n + 1, k, la, c => if pl k = -1 then mvM pl n (k + 1) la c else mvM pl n (k + 1) (pl k) (if la = -1 then c else if pl k = la then c else c + 1)
def rtM (pl ra : Nat → Int32) : Nat → Nat → Int32 → Int32
  | 0, _, s => s
  | n + 1, k, s => if pl k = -1 then rtM pl ra n (k + 1) s else rtM pl ra n (k + 1) (s + ra (pl k).toNatClampNeg)
def cmM (pl cs ra fe : Nat → Int32) (nA : Nat) (mv ho dr : Int32) : Int32 := paF (fun a => prM (fe a) ho dr (wkF cs a)) nA 0 (rtM pl ra 12 0 (mvM pl 12 0 (-1) 0 * mv))
/-- only the casts row and the gap's slots changed -/
def csS (σ σ' : Nat → Nat → Int32) (m : Nat) : Prop := ∀ a b, ¬ a = m + 8 → ¬ (a = m ∧ (b = 23 ∨ b = 24)) → σ' a b = σ a b
theorem csS.rf {σ : Nat → Nat → Int32} {m : Nat} : csS σ σ m := fun _ _ _ _ => rfl
theorem csS.tr {σ σ1 σ2 : Nat → Nat → Int32} {m : Nat} (h : csS σ σ1 m) (h2 : csS σ1 σ2 m) : csS σ σ2 m := fun a b x y => (h2 a b x y).trans (h a b x y)
theorem csS.gap {σ σ1 : Nat → Nat → Int32} {m : Nat} (h : gapS σ σ1 m) : csS σ σ1 m := fun a b _ y => h a b y
theorem csS.cast {σ σ1 : Nat → Nat → Int32} {m : Nat} (h : same σ σ1 (fun a => a = m + 8)) : csS σ σ1 m := fun a b x _ => by rw [h a x]
theorem csS.cell {σ σ' : Nat → Nat → Int32} {m a : Nat} (h : csS σ σ' m) (ha : a ≠ m + 8) (ha2 : a ≠ m) : σ' a = σ a := by
  funext b
  exact h a b ha (fun z => ha2 z.1)
section PM4
variable {g : fs_G} {d : Nat} {S : List fs_Sh} {fr : Bool} {σ : Nat → Nat → Int32} {τ : Nat → Nat → Int64} {m : Nat}
theorem c_heldM (hM : shM S m) {a : Nat} (ha : a < 6) : fs_Ct g m_X9_held [.ref m, .int (nI a)] ((S, fr), σ, τ) (fun r M' => r = some (.int (heM (σ (m + 2) (18 + a)) (σ (m + 4) 2) (σ (m + 4) 3) (wkF (σ (m + 8)) a))) ∧ ∃ σ', M' = ((S, fr), σ', τ) ∧ gapS σ σ' m) := by
  refine fs_enterC (by decide) (by simp [fs_ok]) (Nat.le_of_ble_eq_true rfl) (fun d => S_X9_held_0 ?_)
  show T_X9_held_0 g d _ [.ref m, .int (nI a)] [] _
  simp only [T_X9_held_0, fi_const, fi_iload, fi_aload, fi_istore, fi_astore, fi_iinc, fi_bin, fi_div, fi_un, fi_dup, fi_dup2, fi_pop, fi_if, fi_cmp, fi_getf, fi_putf, fi_putr, fi_ald, fi_ast, fi_alen, fi_iret, fi_zret, fi_vret, fi_cut, fi_no, fi_s0, fi_s1, fi_s2, fi_s3, fi_s4, fi_v0, fi_v1, fi_v2, fi_v3, fi_v4, fi_v5, fi_n0, fi_n1, fi_n2, fi_mm, fi_stat, fi_alds, fi_tsw, List.getElem?_cons_zero, List.getElem?_cons_succ, List.set_cons_zero, List.set_cons_succ, List.length_cons, List.length_nil, Option.toList_some, Option.toList_none, List.cons_append, List.nil_append, Value.category, true_and, k_0, k_1, k_2, k_3, k_4, false_implies, true_implies, reduceCtorEq]
  refine ⟨by decide, ⟨_, hM.1⟩, (c_days hM (by omega) 2).mono ?_⟩
  rintro r M' ⟨rfl, σ', rfl, hs⟩
  simp only [fi_const, fi_iload, fi_aload, fi_istore, fi_astore, fi_iinc, fi_bin, fi_div, fi_un, fi_dup, fi_dup2, fi_pop, fi_if, fi_cmp, fi_getf, fi_putf, fi_putr, fi_ald, fi_ast, fi_alen, fi_iret, fi_zret, fi_vret, fi_cut, fi_no, fi_s0, fi_s1, fi_s2, fi_s3, fi_s4, fi_v0, fi_v1, fi_v2, fi_v3, fi_v4, fi_v5, fi_n0, fi_n1, fi_n2, fi_mm, fi_stat, fi_alds, fi_tsw, List.getElem?_cons_zero, List.getElem?_cons_succ, List.set_cons_zero, List.set_cons_succ, List.length_cons, List.length_nil, Option.toList_some, Option.toList_none, List.cons_append, List.nil_append, Value.category, true_and, k_0, k_1, k_2, k_3, k_4, false_implies, true_implies, reduceCtorEq, hM.1, hM.2.2.1, hM.2.2.2.2.1, li_18, nI_clamp (show 18 + a < 2 ^ 31 by omega), hs.cell (a := m + 2) (by omega), hs.cell (a := m + 4) (by omega)]
  exact ⟨vp_in_nI (by omega) (by decide), pk_in 2 18 (by decide), by decide, rfl, σ', rfl, hs⟩
theorem gapS.tr {σ1 σ2 : Nat → Nat → Int32} (h : gapS σ σ1 m) (h2 : gapS σ1 σ2 m) : gapS σ σ2 m := fun a b y => (h2 a b y).trans (h a b y)
theorem c_price (hM : shM S m) {a : Nat} (ha : a < 6) : fs_Ct g m_X9_price [.ref m, .int (nI a)] ((S, fr), σ, τ) (fun r M' => r = some (.int (prM (σ (m + 2) (18 + a)) (σ (m + 4) 2) (σ (m + 4) 3) (wkF (σ (m + 8)) a))) ∧ ∃ σ', M' = ((S, fr), σ', τ) ∧ gapS σ σ' m) := by
  refine fs_enterC (by decide) (by simp [fs_ok]) (Nat.le_of_ble_eq_true rfl) (fun d => S_X9_price_0 ?_)
  show T_X9_price_0 g d _ [.ref m, .int (nI a)] [] _
  simp only [T_X9_price_0, fi_const, fi_iload, fi_aload, fi_istore, fi_astore, fi_iinc, fi_bin, fi_div, fi_un, fi_dup, fi_dup2, fi_pop, fi_if, fi_cmp, fi_getf, fi_putf, fi_putr, fi_ald, fi_ast, fi_alen, fi_iret, fi_zret, fi_vret, fi_cut, fi_no, fi_s0, fi_s1, fi_s2, fi_s3, fi_s4, fi_v0, fi_v1, fi_v2, fi_v3, fi_v4, fi_v5, fi_n0, fi_n1, fi_n2, fi_mm, fi_stat, fi_alds, fi_tsw, List.getElem?_cons_zero, List.getElem?_cons_succ, List.set_cons_zero, List.set_cons_succ, List.length_cons, List.length_nil, Option.toList_some, Option.toList_none, List.cons_append, List.nil_append, Value.category, true_and, k_0, k_1, k_2, k_3, k_4, false_implies, true_implies, reduceCtorEq]
  refine ⟨by decide, ⟨_, hM.1⟩, (c_days hM (by omega) 1).mono ?_⟩
  rintro r M' ⟨rfl, σ', rfl, hs⟩
  simp only [fi_const, fi_iload, fi_aload, fi_istore, fi_astore, fi_iinc, fi_bin, fi_div, fi_un, fi_dup, fi_dup2, fi_pop, fi_if, fi_cmp, fi_getf, fi_putf, fi_putr, fi_ald, fi_ast, fi_alen, fi_iret, fi_zret, fi_vret, fi_cut, fi_no, fi_s0, fi_s1, fi_s2, fi_s3, fi_s4, fi_v0, fi_v1, fi_v2, fi_v3, fi_v4, fi_v5, fi_n0, fi_n1, fi_n2, fi_mm, fi_stat, fi_alds, fi_tsw, List.getElem?_cons_zero, List.getElem?_cons_succ, List.set_cons_zero, List.set_cons_succ, List.length_cons, List.length_nil, Option.toList_some, Option.toList_none, List.cons_append, List.nil_append, Value.category, true_and, k_0, k_1, k_2, k_3, k_4, false_implies, true_implies, reduceCtorEq, hM.1, hM.2.2.1, li_18, nI_clamp (show 18 + a < 2 ^ 31 by omega), hs.cell (a := m + 2) (by omega)]
  refine ⟨vp_in_nI (by omega) (by decide), by decide, ⟨_, rfl⟩, (c_heldM hM ha).mono ?_⟩
  rintro r M' ⟨rfl, σ2, rfl, hs2⟩
  simp only [fi_const, fi_iload, fi_aload, fi_istore, fi_astore, fi_iinc, fi_bin, fi_div, fi_un, fi_dup, fi_dup2, fi_pop, fi_if, fi_cmp, fi_getf, fi_putf, fi_putr, fi_ald, fi_ast, fi_alen, fi_iret, fi_zret, fi_vret, fi_cut, fi_no, fi_s0, fi_s1, fi_s2, fi_s3, fi_s4, fi_v0, fi_v1, fi_v2, fi_v3, fi_v4, fi_v5, fi_n0, fi_n1, fi_n2, fi_mm, fi_stat, fi_alds, fi_tsw, List.getElem?_cons_zero, List.getElem?_cons_succ, List.set_cons_zero, List.set_cons_succ, List.length_cons, List.length_nil, Option.toList_some, Option.toList_none, List.cons_append, List.nil_append, Value.category, true_and, k_0, k_1, k_2, k_3, k_4, false_implies, true_implies, reduceCtorEq, hs.cell (a := m + 2) (by omega), hs.cell (a := m + 4) (by omega), hs.cell (a := m + 8) (by omega)]
  exact ⟨rfl, σ2, rfl, hs.tr hs2⟩
theorem l_movesNow (hM : shM S m) {nS : Nat} (hnS : nS ≤ 14) (hc : σ (m + 2) 82 = nI nS) : ∀ n k la c j, k + n = 12 → fs_R g m_X9_movesNow d (0, 0) 6 [.ref m, .int c, .int la, .int (nI k), j] [] ((S, fr), σ, τ) (fun r M' => r = some (.int (mvM (plF (fr_ (σ (m + 4)) 4) (fr_ (σ (m + 2)) 24) nS) n k la c)) ∧ ((S, fr), σ, τ) = M')
  | 0, k, la, c, j, h => by
    refine S_X9_movesNow_6 ?_
    simp only [T_X9_movesNow_6, fi_const, fi_iload, fi_aload, fi_istore, fi_astore, fi_iinc, fi_bin, fi_div, fi_un, fi_dup, fi_dup2, fi_pop, fi_if, fi_cmp, fi_getf, fi_putf, fi_putr, fi_ald, fi_ast, fi_alen, fi_iret, fi_zret, fi_vret, fi_cut, fi_no, fi_s0, fi_s1, fi_s2, fi_s3, fi_s4, fi_v0, fi_v1, fi_v2, fi_v3, fi_v4, fi_v5, fi_n0, fi_n1, fi_n2, fi_mm, fi_stat, fi_alds, fi_tsw, List.getElem?_cons_zero, List.getElem?_cons_succ, List.set_cons_zero, List.set_cons_succ, List.length_cons, List.length_nil, Option.toList_some, Option.toList_none, List.cons_append, List.nil_append, Value.category, true_and, k_0, k_1, k_2, k_3, k_4, false_implies, true_implies, reduceCtorEq]
    refine pk_le 12 k (fun _ => ?_) (fun h2 => by omega)
    simp [mvM]
  | n + 1, k, la, c, j, h => by
    refine S_X9_movesNow_6 ?_
    simp only [T_X9_movesNow_6, fi_const, fi_iload, fi_aload, fi_istore, fi_astore, fi_iinc, fi_bin, fi_div, fi_un, fi_dup, fi_dup2, fi_pop, fi_if, fi_cmp, fi_getf, fi_putf, fi_putr, fi_ald, fi_ast, fi_alen, fi_iret, fi_zret, fi_vret, fi_cut, fi_no, fi_s0, fi_s1, fi_s2, fi_s3, fi_s4, fi_v0, fi_v1, fi_v2, fi_v3, fi_v4, fi_v5, fi_n0, fi_n1, fi_n2, fi_mm, fi_stat, fi_alds, fi_tsw, List.getElem?_cons_zero, List.getElem?_cons_succ, List.set_cons_zero, List.set_cons_succ, List.length_cons, List.length_nil, Option.toList_some, Option.toList_none, List.cons_append, List.nil_append, Value.category, true_and, k_0, k_1, k_2, k_3, k_4, false_implies, true_implies, reduceCtorEq]
    refine pk_le 12 k (fun h2 => by omega) (fun _ => ⟨by decide, ⟨_, hM.1⟩, (c_placeOf hM hnS hc k).mono ?_⟩)
    rintro r M' ⟨rfl, rfl⟩
    generalize hp : plF (fr_ (σ (m + 4)) 4) (fr_ (σ (m + 2)) 24) nS = pl
    have ih := fun la c j => l_movesNow hM hnS hc n (k + 1) la c j (by omega)
    rw [hp] at ih
    simp only [fi_const, fi_iload, fi_aload, fi_istore, fi_astore, fi_iinc, fi_bin, fi_div, fi_un, fi_dup, fi_dup2, fi_pop, fi_if, fi_cmp, fi_getf, fi_putf, fi_putr, fi_ald, fi_ast, fi_alen, fi_iret, fi_zret, fi_vret, fi_cut, fi_no, fi_s0, fi_s1, fi_s2, fi_s3, fi_s4, fi_v0, fi_v1, fi_v2, fi_v3, fi_v4, fi_v5, fi_n0, fi_n1, fi_n2, fi_mm, fi_stat, fi_alds, fi_tsw, List.getElem?_cons_zero, List.getElem?_cons_succ, List.set_cons_zero, List.set_cons_succ, List.length_cons, List.length_nil, Option.toList_some, Option.toList_none, List.cons_append, List.nil_append, Value.category, true_and, k_0, k_1, k_2, k_3, k_4, false_implies, true_implies, reduceCtorEq, nI_1, Int32.add_zero]
    refine ⟨fun q => ?_, fun q => ⟨fun q1 => ?_, fun q1 => ⟨fun q2 => ?_, fun q2 => ?_⟩⟩⟩
    · rw [mvM, if_pos q]; exact ih _ _ _
    · rw [mvM, if_neg q, if_pos q1]; exact ih _ _ _
    · rw [mvM, if_neg q, if_neg q1, if_pos q2]; exact ih _ _ _
    · rw [mvM, if_neg q, if_neg q1, if_neg q2]; exact ih _ _ _
theorem c_movesNow (hM : shM S m) {nS : Nat} (hnS : nS ≤ 14) (hc : σ (m + 2) 82 = nI nS) : fs_Ct g m_X9_movesNow [.ref m] ((S, fr), σ, τ) (fun r M' => r = some (.int (mvM (plF (fr_ (σ (m + 4)) 4) (fr_ (σ (m + 2)) 24) nS) 12 0 (-1) 0)) ∧ ((S, fr), σ, τ) = M') := by
  refine fs_enterC (by decide) (by simp [fs_ok]) (Nat.le_of_ble_eq_true rfl) (fun d => S_X9_movesNow_0 ?_)
  show T_X9_movesNow_0 g d _ [.ref m, .null, .null, .null, .null] [] _
  simp only [T_X9_movesNow_0, fi_const, fi_iload, fi_aload, fi_istore, fi_astore, fi_iinc, fi_bin, fi_div, fi_un, fi_dup, fi_dup2, fi_pop, fi_if, fi_cmp, fi_getf, fi_putf, fi_putr, fi_ald, fi_ast, fi_alen, fi_iret, fi_zret, fi_vret, fi_cut, fi_no, fi_s0, fi_s1, fi_s2, fi_s3, fi_s4, fi_v0, fi_v1, fi_v2, fi_v3, fi_v4, fi_v5, fi_n0, fi_n1, fi_n2, fi_mm, fi_stat, fi_alds, fi_tsw, List.getElem?_cons_zero, List.getElem?_cons_succ, List.set_cons_zero, List.set_cons_succ, List.length_cons, List.length_nil, Option.toList_some, Option.toList_none, List.cons_append, List.nil_append, Value.category, true_and, k_0, k_1, k_2, k_3, k_4, false_implies, true_implies, reduceCtorEq]
  exact l_movesNow hM hnS hc 12 0 (-1) 0 _ rfl
theorem l_spanNow (hM : shM S m) {nS : Nat} (hnS : nS ≤ 14) (hc : σ (m + 2) 82 = nI nS) : ∀ n, n ≤ 12 → fs_R g m_X9_spanNow d (0, 0) 3 [.ref m, .int (nI n)] [] ((S, fr), σ, τ) (fun r M' => r = some (.int (nI (spF (fun e => scF (fr_ (σ (m + 4)) 4) e nS) n))) ∧ ((S, fr), σ, τ) = M')
  | 0, h => by
    refine S_X9_spanNow_3 ?_
    simp only [T_X9_spanNow_3, fi_const, fi_iload, fi_aload, fi_istore, fi_astore, fi_iinc, fi_bin, fi_div, fi_un, fi_dup, fi_dup2, fi_pop, fi_if, fi_cmp, fi_getf, fi_putf, fi_putr, fi_ald, fi_ast, fi_alen, fi_iret, fi_zret, fi_vret, fi_cut, fi_no, fi_s0, fi_s1, fi_s2, fi_s3, fi_s4, fi_v0, fi_v1, fi_v2, fi_v3, fi_v4, fi_v5, fi_n0, fi_n1, fi_n2, fi_mm, fi_stat, fi_alds, fi_tsw, List.getElem?_cons_zero, List.getElem?_cons_succ, List.set_cons_zero, List.set_cons_succ, List.length_cons, List.length_nil, Option.toList_some, Option.toList_none, List.cons_append, List.nil_append, Value.category, true_and, k_0, k_1, k_2, k_3, k_4, false_implies, true_implies, reduceCtorEq]
    refine ⟨fun _ => by simp [spF], fun h2 => absurd (by decide) h2⟩
  | n + 1, h => by
    refine S_X9_spanNow_3 ?_
    simp only [T_X9_spanNow_3, fi_const, fi_iload, fi_aload, fi_istore, fi_astore, fi_iinc, fi_bin, fi_div, fi_un, fi_dup, fi_dup2, fi_pop, fi_if, fi_cmp, fi_getf, fi_putf, fi_putr, fi_ald, fi_ast, fi_alen, fi_iret, fi_zret, fi_vret, fi_cut, fi_no, fi_s0, fi_s1, fi_s2, fi_s3, fi_s4, fi_v0, fi_v1, fi_v2, fi_v3, fi_v4, fi_v5, fi_n0, fi_n1, fi_n2, fi_mm, fi_stat, fi_alds, fi_tsw, List.getElem?_cons_zero, List.getElem?_cons_succ, List.set_cons_zero, List.set_cons_succ, List.length_cons, List.length_nil, Option.toList_some, Option.toList_none, List.cons_append, List.nil_append, Value.category, true_and, k_0, k_1, k_2, k_3, k_4, false_implies, true_implies, reduceCtorEq, nI_pred, m1_eq]
    refine ⟨fun h2 => absurd h2 (nI_nle (by omega) (by omega)), fun _ => ⟨by decide, ⟨_, hM.1⟩, (c_anyOf hM hnS hc n).mono ?_⟩⟩
    rintro r M' ⟨rfl, rfl⟩
    have hb : ∀ b, anF (fr_ (σ (m + 4)) 4) n nS 0 = some b → b < 14 := fun b q => by have := (anF_some q).1; omega
    simp only [fi_const, fi_iload, fi_aload, fi_istore, fi_astore, fi_iinc, fi_bin, fi_div, fi_un, fi_dup, fi_dup2, fi_pop, fi_if, fi_cmp, fi_getf, fi_putf, fi_putr, fi_ald, fi_ast, fi_alen, fi_iret, fi_zret, fi_vret, fi_cut, fi_no, fi_s0, fi_s1, fi_s2, fi_s3, fi_s4, fi_v0, fi_v1, fi_v2, fi_v3, fi_v4, fi_v5, fi_n0, fi_n1, fi_n2, fi_mm, fi_stat, fi_alds, fi_tsw, List.getElem?_cons_zero, List.getElem?_cons_succ, List.set_cons_zero, List.set_cons_succ, List.length_cons, List.length_nil, Option.toList_some, Option.toList_none, List.cons_append, List.nil_append, Value.category, true_and, k_0, k_1, k_2, k_3, k_4, false_implies, true_implies, reduceCtorEq, oI_m14 hb, ← scF_an hnS]
    refine ⟨fun e => ?_, fun e => by simp [spF, e]⟩
    rw [spF, if_pos e]
    exact l_spanNow hM hnS hc n (by omega)
theorem c_spanNow (hM : shM S m) {nS : Nat} (hnS : nS ≤ 14) (hc : σ (m + 2) 82 = nI nS) : fs_Ct g m_X9_spanNow [.ref m] ((S, fr), σ, τ) (fun r M' => r = some (.int (nI (spF (fun e => scF (fr_ (σ (m + 4)) 4) e nS) 12))) ∧ ((S, fr), σ, τ) = M') := by
  refine fs_enterC (by decide) (by simp [fs_ok]) (Nat.le_of_ble_eq_true rfl) (fun d => S_X9_spanNow_0 ?_)
  show T_X9_spanNow_0 g d _ [.ref m, .null] [] _
  simp only [T_X9_spanNow_0, fi_const, fi_iload, fi_aload, fi_istore, fi_astore, fi_iinc, fi_bin, fi_div, fi_un, fi_dup, fi_dup2, fi_pop, fi_if, fi_cmp, fi_getf, fi_putf, fi_putr, fi_ald, fi_ast, fi_alen, fi_iret, fi_zret, fi_vret, fi_cut, fi_no, fi_s0, fi_s1, fi_s2, fi_s3, fi_s4, fi_v0, fi_v1, fi_v2, fi_v3, fi_v4, fi_v5, fi_n0, fi_n1, fi_n2, fi_mm, fi_stat, fi_alds, fi_tsw, List.getElem?_cons_zero, List.getElem?_cons_succ, List.set_cons_zero, List.set_cons_succ, List.length_cons, List.length_nil, Option.toList_some, Option.toList_none, List.cons_append, List.nil_append, Value.category, true_and, k_0, k_1, k_2, k_3, k_4, false_implies, true_implies, reduceCtorEq]
  exact l_spanNow hM hnS hc 12 (Nat.le_refl _)
/-- places are places of locations -/
def plOK (pl : Nat → Int32) : Prop := ∀ e, e < 12 → pl e = -1 ∨ ∃ l, l < 4 ∧ pl e = nI l
theorem l_costM2 (hM : shM S m) {nA : Nat} (hA : nA ≤ 6) (σ0 : Nat → Nat → Int32) (hc : σ0 (m + 2) 81 = nI nA) : ∀ n k s σ j, k + n = nA → gapS σ0 σ m → fs_R g m_X9_costNow d (0, 0) 58 [.ref m, .int s, .int (nI k), j] [] ((S, fr), σ, τ) (fun r M' => r = some (.int (paF (fun a => prM (σ0 (m + 2) (18 + a)) (σ0 (m + 4) 2) (σ0 (m + 4) 3) (wkF (σ0 (m + 8)) a)) n k s)) ∧ ∃ σ', M' = ((S, fr), σ', τ) ∧ gapS σ0 σ' m)
  | 0, k, s, σ, j, h, hs => by
    refine S_X9_costNow_58 ?_
    simp only [T_X9_costNow_58, fi_const, fi_iload, fi_aload, fi_istore, fi_astore, fi_iinc, fi_bin, fi_div, fi_un, fi_dup, fi_dup2, fi_pop, fi_if, fi_cmp, fi_getf, fi_putf, fi_putr, fi_ald, fi_ast, fi_alen, fi_iret, fi_zret, fi_vret, fi_cut, fi_no, fi_s0, fi_s1, fi_s2, fi_s3, fi_s4, fi_v0, fi_v1, fi_v2, fi_v3, fi_v4, fi_v5, fi_n0, fi_n1, fi_n2, fi_mm, fi_stat, fi_alds, fi_tsw, List.getElem?_cons_zero, List.getElem?_cons_succ, List.set_cons_zero, List.set_cons_succ, List.length_cons, List.length_nil, Option.toList_some, Option.toList_none, List.cons_append, List.nil_append, Value.category, true_and, k_0, k_1, k_2, k_3, k_4, false_implies, true_implies, reduceCtorEq, hM.1, hM.2.2.1, k_81, hs.cell (a := m + 2) (by omega), hc]
    refine ⟨pk_in 81 83 (by decide), pk_le nA k (fun _ => ?_) (fun h2 => by omega)⟩
    exact ⟨rfl, σ, rfl, hs⟩
  | n + 1, k, s, σ, j, h, hs => by
    refine S_X9_costNow_58 ?_
    simp only [T_X9_costNow_58, fi_const, fi_iload, fi_aload, fi_istore, fi_astore, fi_iinc, fi_bin, fi_div, fi_un, fi_dup, fi_dup2, fi_pop, fi_if, fi_cmp, fi_getf, fi_putf, fi_putr, fi_ald, fi_ast, fi_alen, fi_iret, fi_zret, fi_vret, fi_cut, fi_no, fi_s0, fi_s1, fi_s2, fi_s3, fi_s4, fi_v0, fi_v1, fi_v2, fi_v3, fi_v4, fi_v5, fi_n0, fi_n1, fi_n2, fi_mm, fi_stat, fi_alds, fi_tsw, List.getElem?_cons_zero, List.getElem?_cons_succ, List.set_cons_zero, List.set_cons_succ, List.length_cons, List.length_nil, Option.toList_some, Option.toList_none, List.cons_append, List.nil_append, Value.category, true_and, k_0, k_1, k_2, k_3, k_4, false_implies, true_implies, reduceCtorEq, hM.1, hM.2.2.1, k_81, hs.cell (a := m + 2) (by omega), hc]
    refine ⟨pk_in 81 83 (by decide), pk_le nA k (fun h2 => by omega) (fun _ => ⟨by decide, ⟨_, rfl⟩, (c_price hM (by omega)).mono ?_⟩)⟩
    rintro r M' ⟨rfl, σ2, rfl, hs2⟩
    simp only [fi_const, fi_iload, fi_aload, fi_istore, fi_astore, fi_iinc, fi_bin, fi_div, fi_un, fi_dup, fi_dup2, fi_pop, fi_if, fi_cmp, fi_getf, fi_putf, fi_putr, fi_ald, fi_ast, fi_alen, fi_iret, fi_zret, fi_vret, fi_cut, fi_no, fi_s0, fi_s1, fi_s2, fi_s3, fi_s4, fi_v0, fi_v1, fi_v2, fi_v3, fi_v4, fi_v5, fi_n0, fi_n1, fi_n2, fi_mm, fi_stat, fi_alds, fi_tsw, List.getElem?_cons_zero, List.getElem?_cons_succ, List.set_cons_zero, List.set_cons_succ, List.length_cons, List.length_nil, Option.toList_some, Option.toList_none, List.cons_append, List.nil_append, Value.category, true_and, k_0, k_1, k_2, k_3, k_4, false_implies, true_implies, reduceCtorEq, nI_1, hs.cell (a := m + 2) (by omega), hs.cell (a := m + 4) (by omega), hs.cell (a := m + 8) (by omega)]
    exact l_costM2 hM hA σ0 hc n (k + 1) _ σ2 _ (by omega) (hs.tr hs2)
theorem li_4b (k : Nat) : (4 : Int32) + nI k = nI (4 + k) := nI_add 4 k
theorem l_costM1 (hM : shM S m) {nS nA : Nat} (hnS : nS ≤ 14) (hA : nA ≤ 6) (hc : σ (m + 2) 82 = nI nS) (hcA : σ (m + 2) 81 = nI nA) (hp : plOK (plF (fr_ (σ (m + 4)) 4) (fr_ (σ (m + 2)) 24) nS)) : ∀ n k s j, k + n = 12 → fs_R g m_X9_costNow d (0, 0) 18 [.ref m, .int s, .int (nI k), j] [] ((S, fr), σ, τ) (fun r M' => r = some (.int (paF (fun a => prM (σ (m + 2) (18 + a)) (σ (m + 4) 2) (σ (m + 4) 3) (wkF (σ (m + 8)) a)) nA 0 (rtM (plF (fr_ (σ (m + 4)) 4) (fr_ (σ (m + 2)) 24) nS) (fr_ (σ (m + 2)) 4) n k s))) ∧ ∃ σ', M' = ((S, fr), σ', τ) ∧ gapS σ σ' m)
  | 0, k, s, j, h => by
    refine S_X9_costNow_18 ?_
    simp only [T_X9_costNow_18, fi_const, fi_iload, fi_aload, fi_istore, fi_astore, fi_iinc, fi_bin, fi_div, fi_un, fi_dup, fi_dup2, fi_pop, fi_if, fi_cmp, fi_getf, fi_putf, fi_putr, fi_ald, fi_ast, fi_alen, fi_iret, fi_zret, fi_vret, fi_cut, fi_no, fi_s0, fi_s1, fi_s2, fi_s3, fi_s4, fi_v0, fi_v1, fi_v2, fi_v3, fi_v4, fi_v5, fi_n0, fi_n1, fi_n2, fi_mm, fi_stat, fi_alds, fi_tsw, List.getElem?_cons_zero, List.getElem?_cons_succ, List.set_cons_zero, List.set_cons_succ, List.length_cons, List.length_nil, Option.toList_some, Option.toList_none, List.cons_append, List.nil_append, Value.category, true_and, k_0, k_1, k_2, k_3, k_4, false_implies, true_implies, reduceCtorEq]
    refine pk_le 12 k (fun _ => ?_) (fun h2 => by omega)
    exact l_costM2 hM hA σ hcA nA 0 _ σ _ (by omega) (fun _ _ _ => rfl)
  | n + 1, k, s, j, h => by
    refine S_X9_costNow_18 ?_
    simp only [T_X9_costNow_18, fi_const, fi_iload, fi_aload, fi_istore, fi_astore, fi_iinc, fi_bin, fi_div, fi_un, fi_dup, fi_dup2, fi_pop, fi_if, fi_cmp, fi_getf, fi_putf, fi_putr, fi_ald, fi_ast, fi_alen, fi_iret, fi_zret, fi_vret, fi_cut, fi_no, fi_s0, fi_s1, fi_s2, fi_s3, fi_s4, fi_v0, fi_v1, fi_v2, fi_v3, fi_v4, fi_v5, fi_n0, fi_n1, fi_n2, fi_mm, fi_stat, fi_alds, fi_tsw, List.getElem?_cons_zero, List.getElem?_cons_succ, List.set_cons_zero, List.set_cons_succ, List.length_cons, List.length_nil, Option.toList_some, Option.toList_none, List.cons_append, List.nil_append, Value.category, true_and, k_0, k_1, k_2, k_3, k_4, false_implies, true_implies, reduceCtorEq]
    refine pk_le 12 k (fun h2 => by omega) (fun _ => ⟨by decide, ⟨_, hM.1⟩, (c_placeOf hM hnS hc k).mono ?_⟩)
    rintro r M' ⟨rfl, rfl⟩
    have hpk := hp k (by omega)
    have ih := fun s j => l_costM1 hM hnS hA hc hcA hp n (k + 1) s j (by omega)
    generalize plF (fr_ (σ (m + 4)) 4) (fr_ (σ (m + 2)) 24) nS = pl at hpk ih ⊢
    simp only [fi_const, fi_iload, fi_aload, fi_istore, fi_astore, fi_iinc, fi_bin, fi_div, fi_un, fi_dup, fi_dup2, fi_pop, fi_if, fi_cmp, fi_getf, fi_putf, fi_putr, fi_ald, fi_ast, fi_alen, fi_iret, fi_zret, fi_vret, fi_cut, fi_no, fi_s0, fi_s1, fi_s2, fi_s3, fi_s4, fi_v0, fi_v1, fi_v2, fi_v3, fi_v4, fi_v5, fi_n0, fi_n1, fi_n2, fi_mm, fi_stat, fi_alds, fi_tsw, List.getElem?_cons_zero, List.getElem?_cons_succ, List.set_cons_zero, List.set_cons_succ, List.length_cons, List.length_nil, Option.toList_some, Option.toList_none, List.cons_append, List.nil_append, Value.category, true_and, k_0, k_1, k_2, k_3, k_4, false_implies, true_implies, reduceCtorEq, nI_1, Int32.add_zero, hM.1, hM.2.2.1]
    refine ⟨fun q => ?_, fun q => ?_⟩
    · rw [rtM, if_pos q]; exact ih _ _
    · obtain ⟨l, h4, el⟩ := hpk.resolve_left q
      rw [rtM, if_neg q]
      have := ih (s + fr_ (σ (m + 2)) 4 (pl k).toNatClampNeg) (.int (pl k))
      rw [el] at this ⊢
      simp only [li_4b, nI_clamp (show 4 + l < 2 ^ 31 by omega), nI_clamp (show l < 2 ^ 31 by omega), fr_] at this ⊢
      exact ⟨vp_in_nI (by omega) (by decide), this⟩
theorem c_costNow (hM : shM S m) {nS nA : Nat} (hnS : nS ≤ 14) (hA : nA ≤ 6) (hc : σ (m + 2) 82 = nI nS) (hcA : σ (m + 2) 81 = nI nA) (hp : plOK (plF (fr_ (σ (m + 4)) 4) (fr_ (σ (m + 2)) 24) nS)) : fs_Ct g m_X9_costNow [.ref m] ((S, fr), σ, τ) (fun r M' => r = some (.int (cmM (plF (fr_ (σ (m + 4)) 4) (fr_ (σ (m + 2)) 24) nS) (fun e => caF (fr_ (σ (m + 4)) 4) (fr_ (σ (m + 2)) 66) e nS) (fr_ (σ (m + 2)) 4) (fr_ (σ (m + 2)) 18) nA (σ (m + 4) 1) (σ (m + 4) 2) (σ (m + 4) 3))) ∧ ∃ σ', M' = ((S, fr), σ', τ) ∧ csS σ σ' m) := by
  refine fs_enterC (by decide) (by simp [fs_ok]) (Nat.le_of_ble_eq_true rfl) (fun d => S_X9_costNow_0 ?_)
  show T_X9_costNow_0 g d _ [.ref m, .null, .null, .null] [] _
  simp only [T_X9_costNow_0, fi_const, fi_iload, fi_aload, fi_istore, fi_astore, fi_iinc, fi_bin, fi_div, fi_un, fi_dup, fi_dup2, fi_pop, fi_if, fi_cmp, fi_getf, fi_putf, fi_putr, fi_ald, fi_ast, fi_alen, fi_iret, fi_zret, fi_vret, fi_cut, fi_no, fi_s0, fi_s1, fi_s2, fi_s3, fi_s4, fi_v0, fi_v1, fi_v2, fi_v3, fi_v4, fi_v5, fi_n0, fi_n1, fi_n2, fi_mm, fi_stat, fi_alds, fi_tsw, List.getElem?_cons_zero, List.getElem?_cons_succ, List.set_cons_zero, List.set_cons_succ, List.length_cons, List.length_nil, Option.toList_some, Option.toList_none, List.cons_append, List.nil_append, Value.category, true_and, k_0, k_1, k_2, k_3, k_4, false_implies, true_implies, reduceCtorEq]
  refine ⟨by decide, ⟨_, hM.1⟩, (c_laysCasts hM hnS hc).mono ?_⟩
  rintro r M' ⟨rfl, σ1, rfl, hs1, hl⟩
  have f2 : σ1 (m + 2) = σ (m + 2) := hs1 _ (by omega)
  have f4 : σ1 (m + 4) = σ (m + 4) := hs1 _ (by omega)
  simp only [fi_const, fi_iload, fi_aload, fi_istore, fi_astore, fi_iinc, fi_bin, fi_div, fi_un, fi_dup, fi_dup2, fi_pop, fi_if, fi_cmp, fi_getf, fi_putf, fi_putr, fi_ald, fi_ast, fi_alen, fi_iret, fi_zret, fi_vret, fi_cut, fi_no, fi_s0, fi_s1, fi_s2, fi_s3, fi_s4, fi_v0, fi_v1, fi_v2, fi_v3, fi_v4, fi_v5, fi_n0, fi_n1, fi_n2, fi_mm, fi_stat, fi_alds, fi_tsw, List.getElem?_cons_zero, List.getElem?_cons_succ, List.set_cons_zero, List.set_cons_succ, List.length_cons, List.length_nil, Option.toList_some, Option.toList_none, List.cons_append, List.nil_append, Value.category, true_and, k_0, k_1, k_2, k_3, k_4, false_implies, true_implies, reduceCtorEq]
  refine ⟨by decide, ⟨_, hM.1⟩, (c_movesNow hM hnS (by rw [f2]; exact hc)).mono ?_⟩
  rintro r M' ⟨rfl, rfl⟩
  simp only [fi_const, fi_iload, fi_aload, fi_istore, fi_astore, fi_iinc, fi_bin, fi_div, fi_un, fi_dup, fi_dup2, fi_pop, fi_if, fi_cmp, fi_getf, fi_putf, fi_putr, fi_ald, fi_ast, fi_alen, fi_iret, fi_zret, fi_vret, fi_cut, fi_no, fi_s0, fi_s1, fi_s2, fi_s3, fi_s4, fi_v0, fi_v1, fi_v2, fi_v3, fi_v4, fi_v5, fi_n0, fi_n1, fi_n2, fi_mm, fi_stat, fi_alds, fi_tsw, List.getElem?_cons_zero, List.getElem?_cons_succ, List.set_cons_zero, List.set_cons_succ, List.length_cons, List.length_nil, Option.toList_some, Option.toList_none, List.cons_append, List.nil_append, Value.category, true_and, k_0, k_1, k_2, k_3, k_4, false_implies, true_implies, reduceCtorEq, hM.1, hM.2.2.2.2.1, f2, f4]
  refine ⟨pk_in 1 18 (by decide), ?_⟩
  have := l_costM1 (d := d) (g := g) (fr := fr) (τ := τ) (σ := σ1) hM hnS hA (by rw [f2]; exact hc) (by rw [f2]; exact hcA) (by rw [f2, f4]; exact hp) 12 0 (mvM (plF (fr_ (σ (m + 4)) 4) (fr_ (σ (m + 2)) 24) nS) 12 0 (-1) 0 * σ (m + 4) 1) .null rfl
  refine fs_R_mono this ?_
  rintro r M' ⟨rfl, σ', rfl, hs'⟩
  refine ⟨?_, σ', rfl, (csS.cast hs1).tr (csS.gap hs')⟩
  rw [f2, f4]
  unfold cmM
  congr 3
  funext a
  unfold prM heM
  rw [dsM_congr (h := wkF (fun e => caF (fr_ (σ (m + 4)) 4) (fr_ (σ (m + 2)) 66) e nS) a) (fun j hj => by simp only [wkF, hl j hj, f2, f4]), dsM_congr (its := 2) (h := wkF (fun e => caF (fr_ (σ (m + 4)) 4) (fr_ (σ (m + 2)) 66) e nS) a) (fun j hj => by simp only [wkF, hl j hj, f2, f4])]
  rfl
end PM4
