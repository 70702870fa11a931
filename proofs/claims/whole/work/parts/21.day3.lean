/-! ===== DayTable: questions ===== -/
def oI : Option Nat → Int32
  | none => -1
  | some b => nI b
def clF (ni cs : Nat → Int32) (a b : Nat) : Bool := !decide (ni a = 0) && decide (ni b = 0) && !decide (cs a &&& cs b = 0)
def brF (ni cs : Nat → Int32) : Nat → Nat → Bool
  | 0, _ => false
  | n + 1, k => if clF ni cs k (k + 1) then true else brF ni cs n (k + 1)
def mxF (le : Nat → Int32) : Nat → Nat → Int32 → Int32
  | 0, _, m => m
  | n + 1, k, m => mxF le n (k + 1) (if m < le k then le k else m)
def spF (sc : Nat → Int32) : Nat → Nat
  | 0 => 0
  | n + 1 => if sc n = 0 then spF sc n else n + 1
def mvC (lo : Nat → Int32) (k : Nat) (c : Int32) : Option Nat → Int32
  | none => c
  | some b => if lo b = lo k then c else c + 1
def mvG (sc lo : Nat → Int32) : Nat → Nat → Option Nat → Int32 → Int32
  | 0, _, _, c => c
  | n + 1, k, be, c => if sc k = 0 then mvG sc lo n (k + 1) be c else mvG sc lo n (k + 1) (some k) (mvC lo k c be)
def rtF (sc lo ra : Nat → Int32) : Nat → Nat → Int32 → Int32
  | 0, _, s => s
  | n + 1, k, s => if sc k = 0 then rtF sc lo ra n (k + 1) s else rtF sc lo ra n (k + 1) (s + ra (lo k).toNatClampNeg)
def paF (pay : Nat → Int32) : Nat → Nat → Int32 → Int32
  | 0, _, s => s
  | n + 1, k, s => paF pay n (k + 1) (s + pay k)
def wkF (cs : Nat → Int32) (a k : Nat) : Bool := bt (cs k) a
def hoF (fee hold drop : Int32) (f : Nat → Bool) : Int32 := fee * hold / 100 * nI (ct (heB f drop) 12)
def pyF (fee hold drop : Int32) (f : Nat → Bool) : Int32 := fee * nI (ct f 12) + hoF fee hold drop f
/-- places of days that are not free lie in the row of locations -/
def locOK (sc lo : Nat → Int32) : Prop := ∀ e, e < 12 → sc e ≠ 0 → ∃ l, l < 4 ∧ lo e = nI l
theorem drG_congr {f h : Nat → Bool} (e : ∀ k, k < 12 → f k = h k) : ∀ n k lo da be, k + n = 12 → drG f n k lo da be = drG h n k lo da be
  | 0, _, _, _, _, _ => rfl
  | n + 1, k, lo, da, be, q => by
    simp only [drG]
    rw [e k (by omega), drG_congr e n (k + 1) lo da (nI k) (by omega), drG_congr e n (k + 1) (nI k - be - 1) (btw (be + 1) (nI k)) (nI k) (by omega), drG_congr e n (k + 1) lo da be (by omega)]
theorem heB_congr {f h : Nat → Bool} {drop : Int32} (e : ∀ k, k < 12 → f k = h k) {k : Nat} (hk : k < 12) : heB f drop k = heB h drop k := by
  simp only [heB, inFL, drB]
  rw [drG_congr e 12 0 _ _ _ rfl, ct_congr (n := k + 1) (fun j hj => e j (by omega)), ct_congr (n := k) (fun j hj => e j (by omega)), ct_congr (n := 12) e, e k hk]
theorem hoF_congr {fee hold drop : Int32} {f h : Nat → Bool} (e : ∀ k, k < 12 → f k = h k) : hoF fee hold drop f = hoF fee hold drop h := by
  simp only [hoF]
  rw [ct_congr (fun k hk => heB_congr e hk)]
theorem isSet.bt {x : Int32} {f : Nat → Bool} {n : Nat} (h : isSet x f n) (hn : n ≤ 32) : ∀ k, k < n → bt x k = f k := by
  intro k hk
  rw [h k (by omega)]
  simp [hk]
section PD3
variable {g : fs_G} {d : Nat} {S : List fs_Sh} {fr : Bool} {σ : Nat → Nat → Int32} {τ : Nat → Nat → Int64} {p t : Nat}
theorem c_isFree (hD : shD S t p) {k : Nat} (hk : k < 12) : fs_Ct g m_X0_isFree [.ref t, .int (nI k)] ((S, fr), σ, τ) (fun r M' => r = some (.int (bI (decide (σ (t + 1) k = 0)))) ∧ ((S, fr), σ, τ) = M') := by
  refine fs_enterC (by decide) (by simp [fs_ok]) (Nat.le_of_ble_eq_true rfl) (fun d => S_X0_isFree_0 ?_)
  show T_X0_isFree_0 g d _ [.ref t, .int (nI k)] [] _
  simp only [T_X0_isFree_0, fi_const, fi_iload, fi_aload, fi_istore, fi_astore, fi_iinc, fi_bin, fi_div, fi_un, fi_dup, fi_dup2, fi_pop, fi_if, fi_cmp, fi_getf, fi_putf, fi_putr, fi_ald, fi_ast, fi_alen, fi_iret, fi_zret, fi_vret, fi_cut, fi_no, fi_s0, fi_s1, fi_s2, fi_s3, fi_s4, fi_v0, fi_v1, fi_v2, fi_v3, fi_v4, fi_v5, fi_n0, fi_n1, fi_n2, fi_mm, fi_stat, fi_alds, fi_tsw, List.getElem?_cons_zero, List.getElem?_cons_succ, List.set_cons_zero, List.set_cons_succ, List.length_cons, List.length_nil, Option.toList_some, Option.toList_none, List.cons_append, List.nil_append, Value.category, true_and, k_0, k_1, k_2, k_3, k_4, false_implies, true_implies, reduceCtorEq]
  simp only [hD.1, hD.2.1, fi_const, fi_iload, fi_aload, fi_istore, fi_astore, fi_iinc, fi_bin, fi_div, fi_un, fi_dup, fi_dup2, fi_pop, fi_if, fi_cmp, fi_getf, fi_putf, fi_putr, fi_ald, fi_ast, fi_alen, fi_iret, fi_zret, fi_vret, fi_cut, fi_no, fi_s0, fi_s1, fi_s2, fi_s3, fi_s4, fi_v0, fi_v1, fi_v2, fi_v3, fi_v4, fi_v5, fi_n0, fi_n1, fi_n2, fi_mm, fi_stat, fi_alds, fi_tsw, List.getElem?_cons_zero, List.getElem?_cons_succ, List.set_cons_zero, List.set_cons_succ, List.length_cons, List.length_nil, Option.toList_some, Option.toList_none, List.cons_append, List.nil_append, Value.category, true_and, k_0, k_1, k_2, k_3, k_4, false_implies, true_implies, reduceCtorEq, nI_clamp (show k < 2 ^ 31 by omega)]
  refine ⟨vp_in_nI hk (by decide), ?_⟩
  by_cases e : σ (t + 1) k = 0 <;> simp [e, bI]
theorem c_clash (hD : shD S t p) {a b : Nat} (ha : a < 12) (hb : b < 12) : fs_Ct g m_X0_clash [.ref t, .int (nI a), .int (nI b)] ((S, fr), σ, τ) (fun r M' => r = some (.int (bI (clF (σ (t + 3)) (σ (t + 5)) a b))) ∧ ((S, fr), σ, τ) = M') := by
  refine fs_enterC (by decide) (by simp [fs_ok]) (Nat.le_of_ble_eq_true rfl) (fun d => S_X0_clash_0 ?_)
  show T_X0_clash_0 g d _ [.ref t, .int (nI a), .int (nI b)] [] _
  simp only [T_X0_clash_0, fi_const, fi_iload, fi_aload, fi_istore, fi_astore, fi_iinc, fi_bin, fi_div, fi_un, fi_dup, fi_dup2, fi_pop, fi_if, fi_cmp, fi_getf, fi_putf, fi_putr, fi_ald, fi_ast, fi_alen, fi_iret, fi_zret, fi_vret, fi_cut, fi_no, fi_s0, fi_s1, fi_s2, fi_s3, fi_s4, fi_v0, fi_v1, fi_v2, fi_v3, fi_v4, fi_v5, fi_n0, fi_n1, fi_n2, fi_mm, fi_stat, fi_alds, fi_tsw, List.getElem?_cons_zero, List.getElem?_cons_succ, List.set_cons_zero, List.set_cons_succ, List.length_cons, List.length_nil, Option.toList_some, Option.toList_none, List.cons_append, List.nil_append, Value.category, true_and, k_0, k_1, k_2, k_3, k_4, false_implies, true_implies, reduceCtorEq]
  simp only [hD.1, hD.2.2.2.1, hD.2.2.2.2.2, fi_const, fi_iload, fi_aload, fi_istore, fi_astore, fi_iinc, fi_bin, fi_div, fi_un, fi_dup, fi_dup2, fi_pop, fi_if, fi_cmp, fi_getf, fi_putf, fi_putr, fi_ald, fi_ast, fi_alen, fi_iret, fi_zret, fi_vret, fi_cut, fi_no, fi_s0, fi_s1, fi_s2, fi_s3, fi_s4, fi_v0, fi_v1, fi_v2, fi_v3, fi_v4, fi_v5, fi_n0, fi_n1, fi_n2, fi_mm, fi_stat, fi_alds, fi_tsw, List.getElem?_cons_zero, List.getElem?_cons_succ, List.set_cons_zero, List.set_cons_succ, List.length_cons, List.length_nil, Option.toList_some, Option.toList_none, List.cons_append, List.nil_append, Value.category, true_and, k_0, k_1, k_2, k_3, k_4, false_implies, true_implies, reduceCtorEq, nI_clamp (show a < 2 ^ 31 by omega), nI_clamp (show b < 2 ^ 31 by omega)]
  have hia : vp_in (nI a) 12 := vp_in_nI ha (by decide)
  have hib : vp_in (nI b) 12 := vp_in_nI hb (by decide)
  simp only [hia, hib, true_and, clF]
  by_cases e1 : σ (t + 3) a = 0 <;> by_cases e2 : σ (t + 3) b = 0 <;> by_cases e3 : σ (t + 5) a &&& σ (t + 5) b = 0 <;> simp [e1, e2, e3, bI]
theorem l_breaks (hD : shD S t p) : ∀ n k, k + n = 11 → fs_R g m_X0_breaksTurnaround d (0, 0) 2 [.ref t, .int (nI k)] [] ((S, fr), σ, τ) (fun r M' => r = some (.int (bI (brF (σ (t + 3)) (σ (t + 5)) n k))) ∧ ((S, fr), σ, τ) = M')
  | 0, k, h => by
    refine S_X0_breaksTurnaround_2 ?_
    simp only [T_X0_breaksTurnaround_2, fi_const, fi_iload, fi_aload, fi_istore, fi_astore, fi_iinc, fi_bin, fi_div, fi_un, fi_dup, fi_dup2, fi_pop, fi_if, fi_cmp, fi_getf, fi_putf, fi_putr, fi_ald, fi_ast, fi_alen, fi_iret, fi_zret, fi_vret, fi_cut, fi_no, fi_s0, fi_s1, fi_s2, fi_s3, fi_s4, fi_v0, fi_v1, fi_v2, fi_v3, fi_v4, fi_v5, fi_n0, fi_n1, fi_n2, fi_mm, fi_stat, fi_alds, fi_tsw, List.getElem?_cons_zero, List.getElem?_cons_succ, List.set_cons_zero, List.set_cons_succ, List.length_cons, List.length_nil, Option.toList_some, Option.toList_none, List.cons_append, List.nil_append, Value.category, true_and, k_0, k_1, k_2, k_3, k_4, false_implies, true_implies, reduceCtorEq, nI_1]
    refine pk_le 12 (k + 1) (fun _ => ?_) (fun h2 => by omega)
    simp [brF, bI]
  | n + 1, k, h => by
    refine S_X0_breaksTurnaround_2 ?_
    simp only [T_X0_breaksTurnaround_2, fi_const, fi_iload, fi_aload, fi_istore, fi_astore, fi_iinc, fi_bin, fi_div, fi_un, fi_dup, fi_dup2, fi_pop, fi_if, fi_cmp, fi_getf, fi_putf, fi_putr, fi_ald, fi_ast, fi_alen, fi_iret, fi_zret, fi_vret, fi_cut, fi_no, fi_s0, fi_s1, fi_s2, fi_s3, fi_s4, fi_v0, fi_v1, fi_v2, fi_v3, fi_v4, fi_v5, fi_n0, fi_n1, fi_n2, fi_mm, fi_stat, fi_alds, fi_tsw, List.getElem?_cons_zero, List.getElem?_cons_succ, List.set_cons_zero, List.set_cons_succ, List.length_cons, List.length_nil, Option.toList_some, Option.toList_none, List.cons_append, List.nil_append, Value.category, true_and, k_0, k_1, k_2, k_3, k_4, false_implies, true_implies, reduceCtorEq, nI_1]
    refine pk_le 12 (k + 1) (fun h2 => by omega) (fun _ => ⟨by decide, ⟨_, hD.1⟩, (c_clash hD (by omega) (by omega)).mono ?_⟩)
    rintro r M' ⟨rfl, rfl⟩
    simp only [fi_const, fi_iload, fi_aload, fi_istore, fi_astore, fi_iinc, fi_bin, fi_div, fi_un, fi_dup, fi_dup2, fi_pop, fi_if, fi_cmp, fi_getf, fi_putf, fi_putr, fi_ald, fi_ast, fi_alen, fi_iret, fi_zret, fi_vret, fi_cut, fi_no, fi_s0, fi_s1, fi_s2, fi_s3, fi_s4, fi_v0, fi_v1, fi_v2, fi_v3, fi_v4, fi_v5, fi_n0, fi_n1, fi_n2, fi_mm, fi_stat, fi_alds, fi_tsw, List.getElem?_cons_zero, List.getElem?_cons_succ, List.set_cons_zero, List.set_cons_succ, List.length_cons, List.length_nil, Option.toList_some, Option.toList_none, List.cons_append, List.nil_append, Value.category, true_and, k_0, k_1, k_2, k_3, k_4, false_implies, true_implies, reduceCtorEq, bI_eq0]
    refine ⟨fun e => ?_, fun e => ?_⟩
    · rw [brF, if_neg (by simp [e])]
      exact l_breaks hD n (k + 1) (by omega)
    · rw [brF, if_pos (by simpa using e)]
      simp [bI]
theorem c_breaks (hD : shD S t p) : fs_Ct g m_X0_breaksTurnaround [.ref t] ((S, fr), σ, τ) (fun r M' => r = some (.int (bI (brF (σ (t + 3)) (σ (t + 5)) 11 0))) ∧ ((S, fr), σ, τ) = M') := by
  refine fs_enterC (by decide) (by simp [fs_ok]) (Nat.le_of_ble_eq_true rfl) (fun d => S_X0_breaksTurnaround_0 ?_)
  show T_X0_breaksTurnaround_0 g d _ [.ref t, .null] [] _
  simp only [T_X0_breaksTurnaround_0, fi_const, fi_iload, fi_aload, fi_istore, fi_astore, fi_iinc, fi_bin, fi_div, fi_un, fi_dup, fi_dup2, fi_pop, fi_if, fi_cmp, fi_getf, fi_putf, fi_putr, fi_ald, fi_ast, fi_alen, fi_iret, fi_zret, fi_vret, fi_cut, fi_no, fi_s0, fi_s1, fi_s2, fi_s3, fi_s4, fi_v0, fi_v1, fi_v2, fi_v3, fi_v4, fi_v5, fi_n0, fi_n1, fi_n2, fi_mm, fi_stat, fi_alds, fi_tsw, List.getElem?_cons_zero, List.getElem?_cons_succ, List.set_cons_zero, List.set_cons_succ, List.length_cons, List.length_nil, Option.toList_some, Option.toList_none, List.cons_append, List.nil_append, Value.category, true_and, k_0, k_1, k_2, k_3, k_4, false_implies, true_implies, reduceCtorEq]
  exact l_breaks hD 11 0 rfl
theorem l_longest (hD : shD S t p) : ∀ n k m, k + n = 12 → fs_R g m_X0_longestDay d (0, 0) 4 [.ref t, .int m, .int (nI k)] [] ((S, fr), σ, τ) (fun r M' => r = some (.int (mxF (σ (t + 4)) n k m)) ∧ ((S, fr), σ, τ) = M')
  | 0, k, m, h => by
    refine S_X0_longestDay_4 ?_
    simp only [T_X0_longestDay_4, fi_const, fi_iload, fi_aload, fi_istore, fi_astore, fi_iinc, fi_bin, fi_div, fi_un, fi_dup, fi_dup2, fi_pop, fi_if, fi_cmp, fi_getf, fi_putf, fi_putr, fi_ald, fi_ast, fi_alen, fi_iret, fi_zret, fi_vret, fi_cut, fi_no, fi_s0, fi_s1, fi_s2, fi_s3, fi_s4, fi_v0, fi_v1, fi_v2, fi_v3, fi_v4, fi_v5, fi_n0, fi_n1, fi_n2, fi_mm, fi_stat, fi_alds, fi_tsw, List.getElem?_cons_zero, List.getElem?_cons_succ, List.set_cons_zero, List.set_cons_succ, List.length_cons, List.length_nil, Option.toList_some, Option.toList_none, List.cons_append, List.nil_append, Value.category, true_and, k_0, k_1, k_2, k_3, k_4, false_implies, true_implies, reduceCtorEq]
    refine pk_le 12 k (fun _ => ?_) (fun h2 => by omega)
    simp [mxF]
  | n + 1, k, m, h => by
    refine S_X0_longestDay_4 ?_
    simp only [T_X0_longestDay_4, fi_const, fi_iload, fi_aload, fi_istore, fi_astore, fi_iinc, fi_bin, fi_div, fi_un, fi_dup, fi_dup2, fi_pop, fi_if, fi_cmp, fi_getf, fi_putf, fi_putr, fi_ald, fi_ast, fi_alen, fi_iret, fi_zret, fi_vret, fi_cut, fi_no, fi_s0, fi_s1, fi_s2, fi_s3, fi_s4, fi_v0, fi_v1, fi_v2, fi_v3, fi_v4, fi_v5, fi_n0, fi_n1, fi_n2, fi_mm, fi_stat, fi_alds, fi_tsw, List.getElem?_cons_zero, List.getElem?_cons_succ, List.set_cons_zero, List.set_cons_succ, List.length_cons, List.length_nil, Option.toList_some, Option.toList_none, List.cons_append, List.nil_append, Value.category, true_and, k_0, k_1, k_2, k_3, k_4, false_implies, true_implies, reduceCtorEq, hD.1, hD.2.2.2.2.1, nI_1, nI_clamp (show k < 2 ^ 31 by omega)]
    refine pk_le 12 k (fun h2 => by omega) (fun _ => ⟨vp_in_nI (by omega) (by decide), by decide, ?_⟩)
    exact l_longest hD n (k + 1) _ (by omega)
theorem c_longestDay (hD : shD S t p) : fs_Ct g m_X0_longestDay [.ref t] ((S, fr), σ, τ) (fun r M' => r = some (.int (mxF (σ (t + 4)) 12 0 0)) ∧ ((S, fr), σ, τ) = M') := by
  refine fs_enterC (by decide) (by simp [fs_ok]) (Nat.le_of_ble_eq_true rfl) (fun d => S_X0_longestDay_0 ?_)
  show T_X0_longestDay_0 g d _ [.ref t, .null, .null] [] _
  simp only [T_X0_longestDay_0, fi_const, fi_iload, fi_aload, fi_istore, fi_astore, fi_iinc, fi_bin, fi_div, fi_un, fi_dup, fi_dup2, fi_pop, fi_if, fi_cmp, fi_getf, fi_putf, fi_putr, fi_ald, fi_ast, fi_alen, fi_iret, fi_zret, fi_vret, fi_cut, fi_no, fi_s0, fi_s1, fi_s2, fi_s3, fi_s4, fi_v0, fi_v1, fi_v2, fi_v3, fi_v4, fi_v5, fi_n0, fi_n1, fi_n2, fi_mm, fi_stat, fi_alds, fi_tsw, List.getElem?_cons_zero, List.getElem?_cons_succ, List.set_cons_zero, List.set_cons_succ, List.length_cons, List.length_nil, Option.toList_some, Option.toList_none, List.cons_append, List.nil_append, Value.category, true_and, k_0, k_1, k_2, k_3, k_4, false_implies, true_implies, reduceCtorEq]
  exact l_longest hD 12 0 0 rfl
theorem l_span (hD : shD S t p) : ∀ n, n ≤ 12 → fs_R g m_X0_daysUpToLast d (0, 0) 3 [.ref t, .int (nI n)] [] ((S, fr), σ, τ) (fun r M' => r = some (.int (nI (spF (σ (t + 1)) n))) ∧ ((S, fr), σ, τ) = M')
  | 0, h => by
    refine S_X0_daysUpToLast_3 ?_
    simp only [T_X0_daysUpToLast_3, fi_const, fi_iload, fi_aload, fi_istore, fi_astore, fi_iinc, fi_bin, fi_div, fi_un, fi_dup, fi_dup2, fi_pop, fi_if, fi_cmp, fi_getf, fi_putf, fi_putr, fi_ald, fi_ast, fi_alen, fi_iret, fi_zret, fi_vret, fi_cut, fi_no, fi_s0, fi_s1, fi_s2, fi_s3, fi_s4, fi_v0, fi_v1, fi_v2, fi_v3, fi_v4, fi_v5, fi_n0, fi_n1, fi_n2, fi_mm, fi_stat, fi_alds, fi_tsw, List.getElem?_cons_zero, List.getElem?_cons_succ, List.set_cons_zero, List.set_cons_succ, List.length_cons, List.length_nil, Option.toList_some, Option.toList_none, List.cons_append, List.nil_append, Value.category, true_and, k_0, k_1, k_2, k_3, k_4, false_implies, true_implies, reduceCtorEq]
    refine ⟨fun _ => by simp [spF], fun h2 => absurd (by decide) h2⟩
  | n + 1, h => by
    refine S_X0_daysUpToLast_3 ?_
    simp only [T_X0_daysUpToLast_3, fi_const, fi_iload, fi_aload, fi_istore, fi_astore, fi_iinc, fi_bin, fi_div, fi_un, fi_dup, fi_dup2, fi_pop, fi_if, fi_cmp, fi_getf, fi_putf, fi_putr, fi_ald, fi_ast, fi_alen, fi_iret, fi_zret, fi_vret, fi_cut, fi_no, fi_s0, fi_s1, fi_s2, fi_s3, fi_s4, fi_v0, fi_v1, fi_v2, fi_v3, fi_v4, fi_v5, fi_n0, fi_n1, fi_n2, fi_mm, fi_stat, fi_alds, fi_tsw, List.getElem?_cons_zero, List.getElem?_cons_succ, List.set_cons_zero, List.set_cons_succ, List.length_cons, List.length_nil, Option.toList_some, Option.toList_none, List.cons_append, List.nil_append, Value.category, true_and, k_0, k_1, k_2, k_3, k_4, false_implies, true_implies, reduceCtorEq, nI_pred, m1_eq]
    refine ⟨fun h2 => absurd h2 (nI_nle (by omega) (by omega)), fun _ => ⟨by decide, ⟨_, hD.1⟩, (c_isFree hD (by omega)).mono ?_⟩⟩
    rintro r M' ⟨rfl, rfl⟩
    simp only [fi_const, fi_iload, fi_aload, fi_istore, fi_astore, fi_iinc, fi_bin, fi_div, fi_un, fi_dup, fi_dup2, fi_pop, fi_if, fi_cmp, fi_getf, fi_putf, fi_putr, fi_ald, fi_ast, fi_alen, fi_iret, fi_zret, fi_vret, fi_cut, fi_no, fi_s0, fi_s1, fi_s2, fi_s3, fi_s4, fi_v0, fi_v1, fi_v2, fi_v3, fi_v4, fi_v5, fi_n0, fi_n1, fi_n2, fi_mm, fi_stat, fi_alds, fi_tsw, List.getElem?_cons_zero, List.getElem?_cons_succ, List.set_cons_zero, List.set_cons_succ, List.length_cons, List.length_nil, Option.toList_some, Option.toList_none, List.cons_append, List.nil_append, Value.category, true_and, k_0, k_1, k_2, k_3, k_4, false_implies, true_implies, reduceCtorEq, bI_eq0, decide_eq_false_iff_not]
    refine ⟨fun e => by simp [spF, e], fun e => ?_⟩
    rw [spF, if_pos (Decidable.of_not_not e)]
    exact l_span hD n (by omega)
theorem c_span (hD : shD S t p) : fs_Ct g m_X0_daysUpToLast [.ref t] ((S, fr), σ, τ) (fun r M' => r = some (.int (nI (spF (σ (t + 1)) 12))) ∧ ((S, fr), σ, τ) = M') := by
  refine fs_enterC (by decide) (by simp [fs_ok]) (Nat.le_of_ble_eq_true rfl) (fun d => S_X0_daysUpToLast_0 ?_)
  show T_X0_daysUpToLast_0 g d _ [.ref t, .null] [] _
  simp only [T_X0_daysUpToLast_0, fi_const, fi_iload, fi_aload, fi_istore, fi_astore, fi_iinc, fi_bin, fi_div, fi_un, fi_dup, fi_dup2, fi_pop, fi_if, fi_cmp, fi_getf, fi_putf, fi_putr, fi_ald, fi_ast, fi_alen, fi_iret, fi_zret, fi_vret, fi_cut, fi_no, fi_s0, fi_s1, fi_s2, fi_s3, fi_s4, fi_v0, fi_v1, fi_v2, fi_v3, fi_v4, fi_v5, fi_n0, fi_n1, fi_n2, fi_mm, fi_stat, fi_alds, fi_tsw, List.getElem?_cons_zero, List.getElem?_cons_succ, List.set_cons_zero, List.set_cons_succ, List.length_cons, List.length_nil, Option.toList_some, Option.toList_none, List.cons_append, List.nil_append, Value.category, true_and, k_0, k_1, k_2, k_3, k_4, false_implies, true_implies, reduceCtorEq]
  exact l_span hD 12 (Nat.le_refl _)
theorem l_workOf (hD : shD S t p) {a : Nat} (ha : a < 6) : ∀ n k x, k + n = 12 → isSet x (wkF (σ (t + 5)) a) k → fs_R g m_X0_workOf d (0, 0) 4 [.ref t, .int (nI a), .int x, .int (nI k)] [] ((S, fr), σ, τ) (fun r M' => (∃ x, r = some (.int x) ∧ isSet x (wkF (σ (t + 5)) a) 12) ∧ ((S, fr), σ, τ) = M')
  | 0, k, x, h, hx => by
    refine S_X0_workOf_4 ?_
    simp only [T_X0_workOf_4, fi_const, fi_iload, fi_aload, fi_istore, fi_astore, fi_iinc, fi_bin, fi_div, fi_un, fi_dup, fi_dup2, fi_pop, fi_if, fi_cmp, fi_getf, fi_putf, fi_putr, fi_ald, fi_ast, fi_alen, fi_iret, fi_zret, fi_vret, fi_cut, fi_no, fi_s0, fi_s1, fi_s2, fi_s3, fi_s4, fi_v0, fi_v1, fi_v2, fi_v3, fi_v4, fi_v5, fi_n0, fi_n1, fi_n2, fi_mm, fi_stat, fi_alds, fi_tsw, List.getElem?_cons_zero, List.getElem?_cons_succ, List.set_cons_zero, List.set_cons_succ, List.length_cons, List.length_nil, Option.toList_some, Option.toList_none, List.cons_append, List.nil_append, Value.category, true_and, k_0, k_1, k_2, k_3, k_4, false_implies, true_implies, reduceCtorEq]
    refine pk_le 12 k (fun _ => ?_) (fun h2 => by omega)
    rw [show k = 12 by omega] at hx
    exact ⟨⟨x, rfl, hx⟩, trivial⟩
  | n + 1, k, x, h, hx => by
    refine S_X0_workOf_4 ?_
    simp only [T_X0_workOf_4, fi_const, fi_iload, fi_aload, fi_istore, fi_astore, fi_iinc, fi_bin, fi_div, fi_un, fi_dup, fi_dup2, fi_pop, fi_if, fi_cmp, fi_getf, fi_putf, fi_putr, fi_ald, fi_ast, fi_alen, fi_iret, fi_zret, fi_vret, fi_cut, fi_no, fi_s0, fi_s1, fi_s2, fi_s3, fi_s4, fi_v0, fi_v1, fi_v2, fi_v3, fi_v4, fi_v5, fi_n0, fi_n1, fi_n2, fi_mm, fi_stat, fi_alds, fi_tsw, List.getElem?_cons_zero, List.getElem?_cons_succ, List.set_cons_zero, List.set_cons_succ, List.length_cons, List.length_nil, Option.toList_some, Option.toList_none, List.cons_append, List.nil_append, Value.category, true_and, k_0, k_1, k_2, k_3, k_4, false_implies, true_implies, reduceCtorEq, hD.1, hD.2.2.2.2.2, nI_1, nI_clamp (show k < 2 ^ 31 by omega)]
    refine pk_le 12 k (fun h2 => by omega) (fun _ => ⟨vp_in_nI (by omega) (by decide), by decide, (c_has _ (show a < 32 by omega)).mono ?_⟩)
    rintro r M' ⟨rfl, rfl⟩
    simp only [fi_const, fi_iload, fi_aload, fi_istore, fi_astore, fi_iinc, fi_bin, fi_div, fi_un, fi_dup, fi_dup2, fi_pop, fi_if, fi_cmp, fi_getf, fi_putf, fi_putr, fi_ald, fi_ast, fi_alen, fi_iret, fi_zret, fi_vret, fi_cut, fi_no, fi_s0, fi_s1, fi_s2, fi_s3, fi_s4, fi_v0, fi_v1, fi_v2, fi_v3, fi_v4, fi_v5, fi_n0, fi_n1, fi_n2, fi_mm, fi_stat, fi_alds, fi_tsw, List.getElem?_cons_zero, List.getElem?_cons_succ, List.set_cons_zero, List.set_cons_succ, List.length_cons, List.length_nil, Option.toList_some, Option.toList_none, List.cons_append, List.nil_append, Value.category, true_and, k_0, k_1, k_2, k_3, k_4, false_implies, true_implies, reduceCtorEq, bI_eq0, nI_1]
    refine ⟨fun e => ?_, fun e => ?_⟩
    · exact l_workOf hD ha n (k + 1) x (by omega) (isSet_out hx e)
    · exact l_workOf hD ha n (k + 1) _ (by omega) (isSet_in hx (by omega) (by simpa [wkF] using e))
theorem c_workOf (hD : shD S t p) {a : Nat} (ha : a < 6) : fs_Ct g m_X0_workOf [.ref t, .int (nI a)] ((S, fr), σ, τ) (fun r M' => (∃ x, r = some (.int x) ∧ isSet x (wkF (σ (t + 5)) a) 12) ∧ ((S, fr), σ, τ) = M') := by
  refine fs_enterC (by decide) (by simp [fs_ok]) (Nat.le_of_ble_eq_true rfl) (fun d => S_X0_workOf_0 ?_)
  show T_X0_workOf_0 g d _ [.ref t, .int (nI a), .null, .null] [] _
  simp only [T_X0_workOf_0, fi_const, fi_iload, fi_aload, fi_istore, fi_astore, fi_iinc, fi_bin, fi_div, fi_un, fi_dup, fi_dup2, fi_pop, fi_if, fi_cmp, fi_getf, fi_putf, fi_putr, fi_ald, fi_ast, fi_alen, fi_iret, fi_zret, fi_vret, fi_cut, fi_no, fi_s0, fi_s1, fi_s2, fi_s3, fi_s4, fi_v0, fi_v1, fi_v2, fi_v3, fi_v4, fi_v5, fi_n0, fi_n1, fi_n2, fi_mm, fi_stat, fi_alds, fi_tsw, List.getElem?_cons_zero, List.getElem?_cons_succ, List.set_cons_zero, List.set_cons_succ, List.length_cons, List.length_nil, Option.toList_some, Option.toList_none, List.cons_append, List.nil_append, Value.category, true_and, k_0, k_1, k_2, k_3, k_4, false_implies, true_implies, reduceCtorEq]
  exact l_workOf hD ha 12 0 0 rfl (isSet_0 _)
theorem ct_isSet {x : Int32} {f : Nat → Bool} (h : isSet x f 12) : ct (bt x) 12 = ct f 12 := ct_congr (fun k hk => by rw [h k (by omega)]; simp [hk])
theorem c_holdingPayOf (hD : shD S t p) (hP : shP S p) {a : Nat} (ha : a < 6) : fs_Ct g m_X0_holdingPayOf [.ref t, .int (nI a)] ((S, fr), σ, τ) (fun r M' => r = some (.int (hoF (σ (p + 5) a) (σ (p + 11) 2) (σ (p + 11) 3) (wkF (σ (t + 5)) a))) ∧ ((S, fr), σ, τ) = M') := by
  refine fs_enterC (by decide) (by simp [fs_ok]) (Nat.le_of_ble_eq_true rfl) (fun d => S_X0_holdingPayOf_0 ?_)
  show T_X0_holdingPayOf_0 g d _ [.ref t, .int (nI a), .null] [] _
  simp only [T_X0_holdingPayOf_0, fi_const, fi_iload, fi_aload, fi_istore, fi_astore, fi_iinc, fi_bin, fi_div, fi_un, fi_dup, fi_dup2, fi_pop, fi_if, fi_cmp, fi_getf, fi_putf, fi_putr, fi_ald, fi_ast, fi_alen, fi_iret, fi_zret, fi_vret, fi_cut, fi_no, fi_s0, fi_s1, fi_s2, fi_s3, fi_s4, fi_v0, fi_v1, fi_v2, fi_v3, fi_v4, fi_v5, fi_n0, fi_n1, fi_n2, fi_mm, fi_stat, fi_alds, fi_tsw, List.getElem?_cons_zero, List.getElem?_cons_succ, List.set_cons_zero, List.set_cons_succ, List.length_cons, List.length_nil, Option.toList_some, Option.toList_none, List.cons_append, List.nil_append, Value.category, true_and, k_0, k_1, k_2, k_3, k_4, false_implies, true_implies, reduceCtorEq]
  refine ⟨by decide, ⟨_, hD.1⟩, (c_workOf hD ha).mono ?_⟩
  rintro r M' ⟨⟨x, rfl, hx⟩, rfl⟩
  simp only [fi_const, fi_iload, fi_aload, fi_istore, fi_astore, fi_iinc, fi_bin, fi_div, fi_un, fi_dup, fi_dup2, fi_pop, fi_if, fi_cmp, fi_getf, fi_putf, fi_putr, fi_ald, fi_ast, fi_alen, fi_iret, fi_zret, fi_vret, fi_cut, fi_no, fi_s0, fi_s1, fi_s2, fi_s3, fi_s4, fi_v0, fi_v1, fi_v2, fi_v3, fi_v4, fi_v5, fi_n0, fi_n1, fi_n2, fi_mm, fi_stat, fi_alds, fi_tsw, List.getElem?_cons_zero, List.getElem?_cons_succ, List.set_cons_zero, List.set_cons_succ, List.length_cons, List.length_nil, Option.toList_some, Option.toList_none, List.cons_append, List.nil_append, Value.category, true_and, k_0, k_1, k_2, k_3, k_4, false_implies, true_implies, reduceCtorEq, hD.1, hP.1, hP.2.2.2.2.2.2.2.2.2.2.2]
  refine ⟨pk_in 3 4 (by decide), by decide, (c_held x _ hx.d12).mono ?_⟩
  rintro r M' ⟨⟨y, rfl, hy⟩, rfl⟩
  simp only [fi_const, fi_iload, fi_aload, fi_istore, fi_astore, fi_iinc, fi_bin, fi_div, fi_un, fi_dup, fi_dup2, fi_pop, fi_if, fi_cmp, fi_getf, fi_putf, fi_putr, fi_ald, fi_ast, fi_alen, fi_iret, fi_zret, fi_vret, fi_cut, fi_no, fi_s0, fi_s1, fi_s2, fi_s3, fi_s4, fi_v0, fi_v1, fi_v2, fi_v3, fi_v4, fi_v5, fi_n0, fi_n1, fi_n2, fi_mm, fi_stat, fi_alds, fi_tsw, List.getElem?_cons_zero, List.getElem?_cons_succ, List.set_cons_zero, List.set_cons_succ, List.length_cons, List.length_nil, Option.toList_some, Option.toList_none, List.cons_append, List.nil_append, Value.category, true_and, k_0, k_1, k_2, k_3, k_4, false_implies, true_implies, reduceCtorEq, hD.1]
  refine ⟨by decide, ⟨_, hP.1⟩, (c_holdingFeeOf hP ha).mono ?_⟩
  rintro r M' ⟨rfl, rfl⟩
  simp only [fi_const, fi_iload, fi_aload, fi_istore, fi_astore, fi_iinc, fi_bin, fi_div, fi_un, fi_dup, fi_dup2, fi_pop, fi_if, fi_cmp, fi_getf, fi_putf, fi_putr, fi_ald, fi_ast, fi_alen, fi_iret, fi_zret, fi_vret, fi_cut, fi_no, fi_s0, fi_s1, fi_s2, fi_s3, fi_s4, fi_v0, fi_v1, fi_v2, fi_v3, fi_v4, fi_v5, fi_n0, fi_n1, fi_n2, fi_mm, fi_stat, fi_alds, fi_tsw, List.getElem?_cons_zero, List.getElem?_cons_succ, List.set_cons_zero, List.set_cons_succ, List.length_cons, List.length_nil, Option.toList_some, Option.toList_none, List.cons_append, List.nil_append, Value.category, true_and, k_0, k_1, k_2, k_3, k_4, false_implies, true_implies, reduceCtorEq]
  refine ⟨by decide, (c_bitCount y hy.d12).mono ?_⟩
  rintro r M' ⟨rfl, rfl⟩
  simp only [fi_const, fi_iload, fi_aload, fi_istore, fi_astore, fi_iinc, fi_bin, fi_div, fi_un, fi_dup, fi_dup2, fi_pop, fi_if, fi_cmp, fi_getf, fi_putf, fi_putr, fi_ald, fi_ast, fi_alen, fi_iret, fi_zret, fi_vret, fi_cut, fi_no, fi_s0, fi_s1, fi_s2, fi_s3, fi_s4, fi_v0, fi_v1, fi_v2, fi_v3, fi_v4, fi_v5, fi_n0, fi_n1, fi_n2, fi_mm, fi_stat, fi_alds, fi_tsw, List.getElem?_cons_zero, List.getElem?_cons_succ, List.set_cons_zero, List.set_cons_succ, List.length_cons, List.length_nil, Option.toList_some, Option.toList_none, List.cons_append, List.nil_append, Value.category, true_and, k_0, k_1, k_2, k_3, k_4, false_implies, true_implies, reduceCtorEq]
  refine ⟨?_, trivial⟩
  rw [ct_isSet hy]
  simp only [hoF]
  rw [ct_congr (f := heB (bt x) (σ (p + 11) 3)) (fun k hk => heB_congr (drop := σ (p + 11) 3) (hx.bt (by decide)) hk)]
theorem c_payOf (hD : shD S t p) (hP : shP S p) {a : Nat} (ha : a < 6) : fs_Ct g m_X0_payOf [.ref t, .int (nI a)] ((S, fr), σ, τ) (fun r M' => r = some (.int (pyF (σ (p + 5) a) (σ (p + 11) 2) (σ (p + 11) 3) (wkF (σ (t + 5)) a))) ∧ ((S, fr), σ, τ) = M') := by
  refine fs_enterC (by decide) (by simp [fs_ok]) (Nat.le_of_ble_eq_true rfl) (fun d => S_X0_payOf_0 ?_)
  show T_X0_payOf_0 g d _ [.ref t, .int (nI a)] [] _
  simp only [T_X0_payOf_0, fi_const, fi_iload, fi_aload, fi_istore, fi_astore, fi_iinc, fi_bin, fi_div, fi_un, fi_dup, fi_dup2, fi_pop, fi_if, fi_cmp, fi_getf, fi_putf, fi_putr, fi_ald, fi_ast, fi_alen, fi_iret, fi_zret, fi_vret, fi_cut, fi_no, fi_s0, fi_s1, fi_s2, fi_s3, fi_s4, fi_v0, fi_v1, fi_v2, fi_v3, fi_v4, fi_v5, fi_n0, fi_n1, fi_n2, fi_mm, fi_stat, fi_alds, fi_tsw, List.getElem?_cons_zero, List.getElem?_cons_succ, List.set_cons_zero, List.set_cons_succ, List.length_cons, List.length_nil, Option.toList_some, Option.toList_none, List.cons_append, List.nil_append, Value.category, true_and, k_0, k_1, k_2, k_3, k_4, false_implies, true_implies, reduceCtorEq]
  simp only [hD.1, hP.1, hP.2.2.2.2.2.1, fi_const, fi_iload, fi_aload, fi_istore, fi_astore, fi_iinc, fi_bin, fi_div, fi_un, fi_dup, fi_dup2, fi_pop, fi_if, fi_cmp, fi_getf, fi_putf, fi_putr, fi_ald, fi_ast, fi_alen, fi_iret, fi_zret, fi_vret, fi_cut, fi_no, fi_s0, fi_s1, fi_s2, fi_s3, fi_s4, fi_v0, fi_v1, fi_v2, fi_v3, fi_v4, fi_v5, fi_n0, fi_n1, fi_n2, fi_mm, fi_stat, fi_alds, fi_tsw, List.getElem?_cons_zero, List.getElem?_cons_succ, List.set_cons_zero, List.set_cons_succ, List.length_cons, List.length_nil, Option.toList_some, Option.toList_none, List.cons_append, List.nil_append, Value.category, true_and, k_0, k_1, k_2, k_3, k_4, false_implies, true_implies, reduceCtorEq, nI_clamp (show a < 2 ^ 31 by omega)]
  refine ⟨vp_in_nI ha (by decide), by decide, ⟨_, rfl⟩, (c_workOf hD ha).mono ?_⟩
  rintro r M' ⟨⟨x, rfl, hx⟩, rfl⟩
  simp only [fi_const, fi_iload, fi_aload, fi_istore, fi_astore, fi_iinc, fi_bin, fi_div, fi_un, fi_dup, fi_dup2, fi_pop, fi_if, fi_cmp, fi_getf, fi_putf, fi_putr, fi_ald, fi_ast, fi_alen, fi_iret, fi_zret, fi_vret, fi_cut, fi_no, fi_s0, fi_s1, fi_s2, fi_s3, fi_s4, fi_v0, fi_v1, fi_v2, fi_v3, fi_v4, fi_v5, fi_n0, fi_n1, fi_n2, fi_mm, fi_stat, fi_alds, fi_tsw, List.getElem?_cons_zero, List.getElem?_cons_succ, List.set_cons_zero, List.set_cons_succ, List.length_cons, List.length_nil, Option.toList_some, Option.toList_none, List.cons_append, List.nil_append, Value.category, true_and, k_0, k_1, k_2, k_3, k_4, false_implies, true_implies, reduceCtorEq]
  refine ⟨by decide, (c_bitCount x hx.d12).mono ?_⟩
  rintro r M' ⟨rfl, rfl⟩
  simp only [fi_const, fi_iload, fi_aload, fi_istore, fi_astore, fi_iinc, fi_bin, fi_div, fi_un, fi_dup, fi_dup2, fi_pop, fi_if, fi_cmp, fi_getf, fi_putf, fi_putr, fi_ald, fi_ast, fi_alen, fi_iret, fi_zret, fi_vret, fi_cut, fi_no, fi_s0, fi_s1, fi_s2, fi_s3, fi_s4, fi_v0, fi_v1, fi_v2, fi_v3, fi_v4, fi_v5, fi_n0, fi_n1, fi_n2, fi_mm, fi_stat, fi_alds, fi_tsw, List.getElem?_cons_zero, List.getElem?_cons_succ, List.set_cons_zero, List.set_cons_succ, List.length_cons, List.length_nil, Option.toList_some, Option.toList_none, List.cons_append, List.nil_append, Value.category, true_and, k_0, k_1, k_2, k_3, k_4, false_implies, true_implies, reduceCtorEq, ct_isSet hx]
  refine ⟨by decide, ⟨_, hD.1⟩, (c_holdingPayOf hD hP ha).mono ?_⟩
  rintro r M' ⟨rfl, rfl⟩
  simp only [fi_const, fi_iload, fi_aload, fi_istore, fi_astore, fi_iinc, fi_bin, fi_div, fi_un, fi_dup, fi_dup2, fi_pop, fi_if, fi_cmp, fi_getf, fi_putf, fi_putr, fi_ald, fi_ast, fi_alen, fi_iret, fi_zret, fi_vret, fi_cut, fi_no, fi_s0, fi_s1, fi_s2, fi_s3, fi_s4, fi_v0, fi_v1, fi_v2, fi_v3, fi_v4, fi_v5, fi_n0, fi_n1, fi_n2, fi_mm, fi_stat, fi_alds, fi_tsw, List.getElem?_cons_zero, List.getElem?_cons_succ, List.set_cons_zero, List.set_cons_succ, List.length_cons, List.length_nil, Option.toList_some, Option.toList_none, List.cons_append, List.nil_append, Value.category, true_and, k_0, k_1, k_2, k_3, k_4, false_implies, true_implies, reduceCtorEq]
  exact ⟨rfl, trivial⟩
theorem oI_m1 {be : Option Nat} (h : ∀ b, be = some b → b < 12) : (oI be = -1) ↔ be = none := by
  cases be with
  | none => simp [oI]
  | some b =>
    have := m1_nI (h b rfl)
    simp only [oI]
    constructor
    · intro q; exact absurd q.symm this
    · intro q; cases q
theorem l_moves (hD : shD S t p) : ∀ n k be c, k + n = 12 → (∀ b, be = some b → b < 12) → fs_R g m_X0_countMoves d (0, 0) 6 [.ref t, .int c, .int (oI be), .int (nI k)] [] ((S, fr), σ, τ) (fun r M' => r = some (.int (mvG (σ (t + 1)) (σ (t + 2)) n k be c)) ∧ ((S, fr), σ, τ) = M')
  | 0, k, be, c, h, hb => by
    refine S_X0_countMoves_6 ?_
    simp only [T_X0_countMoves_6, fi_const, fi_iload, fi_aload, fi_istore, fi_astore, fi_iinc, fi_bin, fi_div, fi_un, fi_dup, fi_dup2, fi_pop, fi_if, fi_cmp, fi_getf, fi_putf, fi_putr, fi_ald, fi_ast, fi_alen, fi_iret, fi_zret, fi_vret, fi_cut, fi_no, fi_s0, fi_s1, fi_s2, fi_s3, fi_s4, fi_v0, fi_v1, fi_v2, fi_v3, fi_v4, fi_v5, fi_n0, fi_n1, fi_n2, fi_mm, fi_stat, fi_alds, fi_tsw, List.getElem?_cons_zero, List.getElem?_cons_succ, List.set_cons_zero, List.set_cons_succ, List.length_cons, List.length_nil, Option.toList_some, Option.toList_none, List.cons_append, List.nil_append, Value.category, true_and, k_0, k_1, k_2, k_3, k_4, false_implies, true_implies, reduceCtorEq]
    refine pk_le 12 k (fun _ => ?_) (fun h2 => by omega)
    simp [mvG]
  | n + 1, k, be, c, h, hb => by
    refine S_X0_countMoves_6 ?_
    simp only [T_X0_countMoves_6, fi_const, fi_iload, fi_aload, fi_istore, fi_astore, fi_iinc, fi_bin, fi_div, fi_un, fi_dup, fi_dup2, fi_pop, fi_if, fi_cmp, fi_getf, fi_putf, fi_putr, fi_ald, fi_ast, fi_alen, fi_iret, fi_zret, fi_vret, fi_cut, fi_no, fi_s0, fi_s1, fi_s2, fi_s3, fi_s4, fi_v0, fi_v1, fi_v2, fi_v3, fi_v4, fi_v5, fi_n0, fi_n1, fi_n2, fi_mm, fi_stat, fi_alds, fi_tsw, List.getElem?_cons_zero, List.getElem?_cons_succ, List.set_cons_zero, List.set_cons_succ, List.length_cons, List.length_nil, Option.toList_some, Option.toList_none, List.cons_append, List.nil_append, Value.category, true_and, k_0, k_1, k_2, k_3, k_4, false_implies, true_implies, reduceCtorEq]
    refine pk_le 12 k (fun h2 => by omega) (fun _ => ⟨by decide, ⟨_, hD.1⟩, (c_isFree hD (by omega)).mono ?_⟩)
    rintro r M' ⟨rfl, rfl⟩
    simp only [fi_const, fi_iload, fi_aload, fi_istore, fi_astore, fi_iinc, fi_bin, fi_div, fi_un, fi_dup, fi_dup2, fi_pop, fi_if, fi_cmp, fi_getf, fi_putf, fi_putr, fi_ald, fi_ast, fi_alen, fi_iret, fi_zret, fi_vret, fi_cut, fi_no, fi_s0, fi_s1, fi_s2, fi_s3, fi_s4, fi_v0, fi_v1, fi_v2, fi_v3, fi_v4, fi_v5, fi_n0, fi_n1, fi_n2, fi_mm, fi_stat, fi_alds, fi_tsw, List.getElem?_cons_zero, List.getElem?_cons_succ, List.set_cons_zero, List.set_cons_succ, List.length_cons, List.length_nil, Option.toList_some, Option.toList_none, List.cons_append, List.nil_append, Value.category, true_and, k_0, k_1, k_2, k_3, k_4, false_implies, true_implies, reduceCtorEq, bI_eq0, nI_1, decide_eq_false_iff_not, hD.1, hD.2.2.1, oI_m1 hb, nI_clamp (show k < 2 ^ 31 by omega)]
    refine ⟨fun e => ⟨fun e2 => ?_, fun e2 => ?_⟩, fun e => ?_⟩
    · subst e2
      rw [mvG, if_neg e]
      exact l_moves hD n (k + 1) (some k) c (by omega) (fun b q => by cases q; omega)
    · cases be with
      | none => exact absurd rfl e2
      | some b =>
        have hb' := hb b rfl
        simp only [oI, nI_clamp (show b < 2 ^ 31 by omega)]
        refine ⟨vp_in_nI hb' (by decide), vp_in_nI (by omega) (by decide), fun e3 => ?_, fun e3 => ?_⟩
        · rw [mvG, if_neg e]
          simp only [mvC, e3, if_true]
          exact l_moves hD n (k + 1) (some k) c (by omega) (fun b q => by cases q; omega)
        · rw [mvG, if_neg e]
          simp only [mvC, e3, if_false]
          exact l_moves hD n (k + 1) (some k) (c + 1) (by omega) (fun b q => by cases q; omega)
    · rw [mvG, if_pos (Decidable.of_not_not e)]
      exact l_moves hD n (k + 1) be c (by omega) hb
theorem c_countMoves (hD : shD S t p) : fs_Ct g m_X0_countMoves [.ref t] ((S, fr), σ, τ) (fun r M' => r = some (.int (mvG (σ (t + 1)) (σ (t + 2)) 12 0 none 0)) ∧ ((S, fr), σ, τ) = M') := by
  refine fs_enterC (by decide) (by simp [fs_ok]) (Nat.le_of_ble_eq_true rfl) (fun d => S_X0_countMoves_0 ?_)
  show T_X0_countMoves_0 g d _ [.ref t, .null, .null, .null] [] _
  simp only [T_X0_countMoves_0, fi_const, fi_iload, fi_aload, fi_istore, fi_astore, fi_iinc, fi_bin, fi_div, fi_un, fi_dup, fi_dup2, fi_pop, fi_if, fi_cmp, fi_getf, fi_putf, fi_putr, fi_ald, fi_ast, fi_alen, fi_iret, fi_zret, fi_vret, fi_cut, fi_no, fi_s0, fi_s1, fi_s2, fi_s3, fi_s4, fi_v0, fi_v1, fi_v2, fi_v3, fi_v4, fi_v5, fi_n0, fi_n1, fi_n2, fi_mm, fi_stat, fi_alds, fi_tsw, List.getElem?_cons_zero, List.getElem?_cons_succ, List.set_cons_zero, List.set_cons_succ, List.length_cons, List.length_nil, Option.toList_some, Option.toList_none, List.cons_append, List.nil_append, Value.category, true_and, k_0, k_1, k_2, k_3, k_4, false_implies, true_implies, reduceCtorEq]
  exact l_moves hD 12 0 none 0 rfl (fun b q => by cases q)
/-- the cost of what a table shows -/
def coF (sc lo cs ra fe : Nat → Int32) (nA : Nat) (mv ho dr : Int32) : Int32 := paF (fun a => pyF (fe a) ho dr (wkF cs a)) nA 0 (rtF sc lo ra 12 0 (mvG sc lo 12 0 none 0 * mv))
theorem l_cost2 (hD : shD S t p) (hP : shP S p) {nA : Nat} (hA : nA ≤ 6) (hc : σ p 4 = nI nA) : ∀ n k s, k + n = nA → fs_R g m_X0_totalCost d (0, 0) 56 [.ref t, .int s, .int (nI k)] [] ((S, fr), σ, τ) (fun r M' => r = some (.int (paF (fun a => pyF (σ (p + 5) a) (σ (p + 11) 2) (σ (p + 11) 3) (wkF (σ (t + 5)) a)) n k s)) ∧ ((S, fr), σ, τ) = M')
  | 0, k, s, h => by
    refine S_X0_totalCost_56 ?_
    simp only [T_X0_totalCost_56, fi_const, fi_iload, fi_aload, fi_istore, fi_astore, fi_iinc, fi_bin, fi_div, fi_un, fi_dup, fi_dup2, fi_pop, fi_if, fi_cmp, fi_getf, fi_putf, fi_putr, fi_ald, fi_ast, fi_alen, fi_iret, fi_zret, fi_vret, fi_cut, fi_no, fi_s0, fi_s1, fi_s2, fi_s3, fi_s4, fi_v0, fi_v1, fi_v2, fi_v3, fi_v4, fi_v5, fi_n0, fi_n1, fi_n2, fi_mm, fi_stat, fi_alds, fi_tsw, List.getElem?_cons_zero, List.getElem?_cons_succ, List.set_cons_zero, List.set_cons_succ, List.length_cons, List.length_nil, Option.toList_some, Option.toList_none, List.cons_append, List.nil_append, Value.category, true_and, k_0, k_1, k_2, k_3, k_4, false_implies, true_implies, reduceCtorEq, hD.1, hP.1, hc]
    refine pk_le nA k (fun _ => ?_) (fun h2 => by omega)
    simp [paF]
  | n + 1, k, s, h => by
    refine S_X0_totalCost_56 ?_
    simp only [T_X0_totalCost_56, fi_const, fi_iload, fi_aload, fi_istore, fi_astore, fi_iinc, fi_bin, fi_div, fi_un, fi_dup, fi_dup2, fi_pop, fi_if, fi_cmp, fi_getf, fi_putf, fi_putr, fi_ald, fi_ast, fi_alen, fi_iret, fi_zret, fi_vret, fi_cut, fi_no, fi_s0, fi_s1, fi_s2, fi_s3, fi_s4, fi_v0, fi_v1, fi_v2, fi_v3, fi_v4, fi_v5, fi_n0, fi_n1, fi_n2, fi_mm, fi_stat, fi_alds, fi_tsw, List.getElem?_cons_zero, List.getElem?_cons_succ, List.set_cons_zero, List.set_cons_succ, List.length_cons, List.length_nil, Option.toList_some, Option.toList_none, List.cons_append, List.nil_append, Value.category, true_and, k_0, k_1, k_2, k_3, k_4, false_implies, true_implies, reduceCtorEq, hD.1, hP.1, hc]
    refine pk_le nA k (fun h2 => by omega) (fun _ => ⟨by decide, ⟨_, rfl⟩, (c_payOf hD hP (by omega)).mono ?_⟩)
    rintro r M' ⟨rfl, rfl⟩
    simp only [fi_const, fi_iload, fi_aload, fi_istore, fi_astore, fi_iinc, fi_bin, fi_div, fi_un, fi_dup, fi_dup2, fi_pop, fi_if, fi_cmp, fi_getf, fi_putf, fi_putr, fi_ald, fi_ast, fi_alen, fi_iret, fi_zret, fi_vret, fi_cut, fi_no, fi_s0, fi_s1, fi_s2, fi_s3, fi_s4, fi_v0, fi_v1, fi_v2, fi_v3, fi_v4, fi_v5, fi_n0, fi_n1, fi_n2, fi_mm, fi_stat, fi_alds, fi_tsw, List.getElem?_cons_zero, List.getElem?_cons_succ, List.set_cons_zero, List.set_cons_succ, List.length_cons, List.length_nil, Option.toList_some, Option.toList_none, List.cons_append, List.nil_append, Value.category, true_and, k_0, k_1, k_2, k_3, k_4, false_implies, true_implies, reduceCtorEq, nI_1]
    exact l_cost2 hD hP hA hc n (k + 1) _ (by omega)
theorem l_cost1 (hD : shD S t p) (hP : shP S p) {nA : Nat} (hA : nA ≤ 6) (hc : σ p 4 = nI nA) (hl : locOK (σ (t + 1)) (σ (t + 2))) : ∀ n k s, k + n = 12 → fs_R g m_X0_totalCost d (0, 0) 17 [.ref t, .int s, .int (nI k)] [] ((S, fr), σ, τ) (fun r M' => r = some (.int (paF (fun a => pyF (σ (p + 5) a) (σ (p + 11) 2) (σ (p + 11) 3) (wkF (σ (t + 5)) a)) nA 0 (rtF (σ (t + 1)) (σ (t + 2)) (σ (p + 2)) n k s))) ∧ ((S, fr), σ, τ) = M')
  | 0, k, s, h => by
    refine S_X0_totalCost_17 ?_
    simp only [T_X0_totalCost_17, fi_const, fi_iload, fi_aload, fi_istore, fi_astore, fi_iinc, fi_bin, fi_div, fi_un, fi_dup, fi_dup2, fi_pop, fi_if, fi_cmp, fi_getf, fi_putf, fi_putr, fi_ald, fi_ast, fi_alen, fi_iret, fi_zret, fi_vret, fi_cut, fi_no, fi_s0, fi_s1, fi_s2, fi_s3, fi_s4, fi_v0, fi_v1, fi_v2, fi_v3, fi_v4, fi_v5, fi_n0, fi_n1, fi_n2, fi_mm, fi_stat, fi_alds, fi_tsw, List.getElem?_cons_zero, List.getElem?_cons_succ, List.set_cons_zero, List.set_cons_succ, List.length_cons, List.length_nil, Option.toList_some, Option.toList_none, List.cons_append, List.nil_append, Value.category, true_and, k_0, k_1, k_2, k_3, k_4, false_implies, true_implies, reduceCtorEq]
    refine pk_le 12 k (fun _ => ?_) (fun h2 => by omega)
    exact l_cost2 hD hP hA hc nA 0 _ (by omega)
  | n + 1, k, s, h => by
    refine S_X0_totalCost_17 ?_
    simp only [T_X0_totalCost_17, fi_const, fi_iload, fi_aload, fi_istore, fi_astore, fi_iinc, fi_bin, fi_div, fi_un, fi_dup, fi_dup2, fi_pop, fi_if, fi_cmp, fi_getf, fi_putf, fi_putr, fi_ald, fi_ast, fi_alen, fi_iret, fi_zret, fi_vret, fi_cut, fi_no, fi_s0, fi_s1, fi_s2, fi_s3, fi_s4, fi_v0, fi_v1, fi_v2, fi_v3, fi_v4, fi_v5, fi_n0, fi_n1, fi_n2, fi_mm, fi_stat, fi_alds, fi_tsw, List.getElem?_cons_zero, List.getElem?_cons_succ, List.set_cons_zero, List.set_cons_succ, List.length_cons, List.length_nil, Option.toList_some, Option.toList_none, List.cons_append, List.nil_append, Value.category, true_and, k_0, k_1, k_2, k_3, k_4, false_implies, true_implies, reduceCtorEq]
    refine pk_le 12 k (fun h2 => by omega) (fun _ => ⟨by decide, ⟨_, hD.1⟩, (c_isFree hD (by omega)).mono ?_⟩)
    rintro r M' ⟨rfl, rfl⟩
    simp only [fi_const, fi_iload, fi_aload, fi_istore, fi_astore, fi_iinc, fi_bin, fi_div, fi_un, fi_dup, fi_dup2, fi_pop, fi_if, fi_cmp, fi_getf, fi_putf, fi_putr, fi_ald, fi_ast, fi_alen, fi_iret, fi_zret, fi_vret, fi_cut, fi_no, fi_s0, fi_s1, fi_s2, fi_s3, fi_s4, fi_v0, fi_v1, fi_v2, fi_v3, fi_v4, fi_v5, fi_n0, fi_n1, fi_n2, fi_mm, fi_stat, fi_alds, fi_tsw, List.getElem?_cons_zero, List.getElem?_cons_succ, List.set_cons_zero, List.set_cons_succ, List.length_cons, List.length_nil, Option.toList_some, Option.toList_none, List.cons_append, List.nil_append, Value.category, true_and, k_0, k_1, k_2, k_3, k_4, false_implies, true_implies, reduceCtorEq, bI_eq0, nI_1, decide_eq_false_iff_not, hD.1, hD.2.2.1, hP.1, hP.2.2.1, nI_clamp (show k < 2 ^ 31 by omega)]
    refine ⟨fun e => ?_, fun e => ?_⟩
    · obtain ⟨l, h4, el⟩ := hl k (by omega) e
      refine ⟨vp_in_nI (by omega) (by decide), by rw [el]; exact vp_in_nI h4 (by decide), ?_⟩
      rw [rtF, if_neg e]
      exact l_cost1 hD hP hA hc hl n (k + 1) _ (by omega)
    · rw [rtF, if_pos (Decidable.of_not_not e)]
      exact l_cost1 hD hP hA hc hl n (k + 1) s (by omega)
theorem c_totalCost (hD : shD S t p) (hP : shP S p) {nA : Nat} (hA : nA ≤ 6) (hc : σ p 4 = nI nA) (hl : locOK (σ (t + 1)) (σ (t + 2))) : fs_Ct g m_X0_totalCost [.ref t] ((S, fr), σ, τ) (fun r M' => r = some (.int (coF (σ (t + 1)) (σ (t + 2)) (σ (t + 5)) (σ (p + 2)) (σ (p + 5)) nA (σ (p + 11) 1) (σ (p + 11) 2) (σ (p + 11) 3))) ∧ ((S, fr), σ, τ) = M') := by
  refine fs_enterC (by decide) (by simp [fs_ok]) (Nat.le_of_ble_eq_true rfl) (fun d => S_X0_totalCost_0 ?_)
  show T_X0_totalCost_0 g d _ [.ref t, .null, .null] [] _
  simp only [T_X0_totalCost_0, fi_const, fi_iload, fi_aload, fi_istore, fi_astore, fi_iinc, fi_bin, fi_div, fi_un, fi_dup, fi_dup2, fi_pop, fi_if, fi_cmp, fi_getf, fi_putf, fi_putr, fi_ald, fi_ast, fi_alen, fi_iret, fi_zret, fi_vret, fi_cut, fi_no, fi_s0, fi_s1, fi_s2, fi_s3, fi_s4, fi_v0, fi_v1, fi_v2, fi_v3, fi_v4, fi_v5, fi_n0, fi_n1, fi_n2, fi_mm, fi_stat, fi_alds, fi_tsw, List.getElem?_cons_zero, List.getElem?_cons_succ, List.set_cons_zero, List.set_cons_succ, List.length_cons, List.length_nil, Option.toList_some, Option.toList_none, List.cons_append, List.nil_append, Value.category, true_and, k_0, k_1, k_2, k_3, k_4, false_implies, true_implies, reduceCtorEq]
  refine ⟨by decide, ⟨_, hD.1⟩, (c_countMoves hD).mono ?_⟩
  rintro r M' ⟨rfl, rfl⟩
  simp only [fi_const, fi_iload, fi_aload, fi_istore, fi_astore, fi_iinc, fi_bin, fi_div, fi_un, fi_dup, fi_dup2, fi_pop, fi_if, fi_cmp, fi_getf, fi_putf, fi_putr, fi_ald, fi_ast, fi_alen, fi_iret, fi_zret, fi_vret, fi_cut, fi_no, fi_s0, fi_s1, fi_s2, fi_s3, fi_s4, fi_v0, fi_v1, fi_v2, fi_v3, fi_v4, fi_v5, fi_n0, fi_n1, fi_n2, fi_mm, fi_stat, fi_alds, fi_tsw, List.getElem?_cons_zero, List.getElem?_cons_succ, List.set_cons_zero, List.set_cons_succ, List.length_cons, List.length_nil, Option.toList_some, Option.toList_none, List.cons_append, List.nil_append, Value.category, true_and, k_0, k_1, k_2, k_3, k_4, false_implies, true_implies, reduceCtorEq, hD.1, hP.1, hP.2.2.2.2.2.2.2.2.2.2.2]
  refine ⟨pk_in 1 4 (by decide), ?_⟩
  exact l_cost1 hD hP hA hc hl 12 0 _ rfl
theorem c_isOutdoors (hD : shD S t p) (hP : shP S p) {k : Nat} (hk : k < 12) (hl : locOK (σ (t + 1)) (σ (t + 2))) : fs_Ct g m_X0_isOutdoors [.ref t, .int (nI k)] ((S, fr), σ, τ) (fun r M' => r = some (.int (bI (!decide (σ (t + 1) k = 0) && decide (σ (p + 3) (σ (t + 2) k).toNatClampNeg = 0)))) ∧ ((S, fr), σ, τ) = M') := by
  refine fs_enterC (by decide) (by simp [fs_ok]) (Nat.le_of_ble_eq_true rfl) (fun d => S_X0_isOutdoors_0 ?_)
  show T_X0_isOutdoors_0 g d _ [.ref t, .int (nI k)] [] _
  simp only [T_X0_isOutdoors_0, fi_const, fi_iload, fi_aload, fi_istore, fi_astore, fi_iinc, fi_bin, fi_div, fi_un, fi_dup, fi_dup2, fi_pop, fi_if, fi_cmp, fi_getf, fi_putf, fi_putr, fi_ald, fi_ast, fi_alen, fi_iret, fi_zret, fi_vret, fi_cut, fi_no, fi_s0, fi_s1, fi_s2, fi_s3, fi_s4, fi_v0, fi_v1, fi_v2, fi_v3, fi_v4, fi_v5, fi_n0, fi_n1, fi_n2, fi_mm, fi_stat, fi_alds, fi_tsw, List.getElem?_cons_zero, List.getElem?_cons_succ, List.set_cons_zero, List.set_cons_succ, List.length_cons, List.length_nil, Option.toList_some, Option.toList_none, List.cons_append, List.nil_append, Value.category, true_and, k_0, k_1, k_2, k_3, k_4, false_implies, true_implies, reduceCtorEq]
  refine ⟨by decide, ⟨_, hD.1⟩, (c_isFree hD hk).mono ?_⟩
  rintro r M' ⟨rfl, rfl⟩
  simp only [fi_const, fi_iload, fi_aload, fi_istore, fi_astore, fi_iinc, fi_bin, fi_div, fi_un, fi_dup, fi_dup2, fi_pop, fi_if, fi_cmp, fi_getf, fi_putf, fi_putr, fi_ald, fi_ast, fi_alen, fi_iret, fi_zret, fi_vret, fi_cut, fi_no, fi_s0, fi_s1, fi_s2, fi_s3, fi_s4, fi_v0, fi_v1, fi_v2, fi_v3, fi_v4, fi_v5, fi_n0, fi_n1, fi_n2, fi_mm, fi_stat, fi_alds, fi_tsw, List.getElem?_cons_zero, List.getElem?_cons_succ, List.set_cons_zero, List.set_cons_succ, List.length_cons, List.length_nil, Option.toList_some, Option.toList_none, List.cons_append, List.nil_append, Value.category, true_and, k_0, k_1, k_2, k_3, k_4, false_implies, true_implies, reduceCtorEq, bI_eq0, decide_eq_false_iff_not, hD.1, hD.2.2.1, hP.1, hP.2.2.2.1, nI_clamp (show k < 2 ^ 31 by omega)]
  refine ⟨fun e => ?_, fun e => ?_⟩
  · obtain ⟨l, h4, el⟩ := hl k (by omega) e
    rw [el]
    refine ⟨vp_in_nI (by omega) (by decide), vp_in_nI h4 (by decide), ?_⟩
    by_cases e2 : σ (p + 3) (nI l).toNatClampNeg = 0 <;> simp [e, e2, bI]
  · simp [Decidable.of_not_not e, bI]
end PD3
