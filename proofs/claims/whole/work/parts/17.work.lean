/-! ===== FilmSchedule.has, WorkDays, Integer.bitCount ===== -/
def fstB (f : Nat → Bool) : Nat → Nat → Int32
  | 0, _ => -1
  | n + 1, k => if f k then nI k else fstB f n (k + 1)
def lstB (f : Nat → Bool) : Nat → Int32
  | 0 => -1
  | n + 1 => if f n then nI n else lstB f n
/-- days from first to last -/
def inFL (f : Nat → Bool) (d : Nat) : Bool := decide (0 < ct f (d + 1)) && decide (ct f d < ct f 12)
def btw (a b : Int32) : Int32 := (1 <<< (b &&& 31)) - (1 <<< (a &&& 31))
def drG (f : Nat → Bool) : Nat → Nat → Int32 → Int32 → Int32 → Int32
  | 0, _, _, da, _ => da
  | n + 1, k, lo, da, be => if f k then (if be = -1 then drG f n (k + 1) lo da (nI k) else if nI k - be - 1 ≤ lo then drG f n (k + 1) lo da (nI k) else drG f n (k + 1) (nI k - be - 1) (btw (be + 1) (nI k)) (nI k)) else drG f n (k + 1) lo da be
def drB (f : Nat → Bool) (drop : Int32) : Int32 := drG f 12 0 (drop - 1) 0 (-1)
theorem ct_pos {f : Nat → Bool} {n : Nat} : 0 < ct f n ↔ ∃ j, j < n ∧ f j = true := by
  induction n with
  | zero => simp [ct]
  | succ n ih =>
    simp only [ct]
    constructor
    · intro h
      by_cases hf : f n = true
      · exact ⟨n, by omega, hf⟩
      · rw [if_neg hf] at h
        obtain ⟨j, h1, h2⟩ := ih.mp h
        exact ⟨j, by omega, h2⟩
    · rintro ⟨j, h1, h2⟩
      by_cases hj : j = n
      · subst hj; rw [if_pos h2]; omega
      · have := ih.mpr ⟨j, by omega, h2⟩
        omega
theorem ct_mono (f : Nat → Bool) {m n : Nat} (h : m ≤ n) : ct f m ≤ ct f n := by
  induction n with
  | zero => rw [show m = 0 by omega]; exact Nat.le_refl _
  | succ n ih =>
    by_cases e : m = n + 1
    · rw [e]; exact Nat.le_refl _
    · have := ih (by omega)
      simp only [ct]; omega
theorem ct_lt {f : Nat → Bool} {d n : Nat} (hd : d ≤ n) : ct f d < ct f n ↔ ∃ j, d ≤ j ∧ j < n ∧ f j = true := by
  induction n with
  | zero => rw [show d = 0 by omega]; simp
  | succ n ih =>
    by_cases e : d = n + 1
    · subst e
      constructor
      · intro h; omega
      · rintro ⟨j, h1, h2, _⟩; omega
    · have ih := ih (by omega)
      simp only [ct]
      constructor
      · intro h
        by_cases hf : f n = true
        · exact ⟨n, by omega, by omega, hf⟩
        · rw [if_neg hf] at h
          obtain ⟨j, h1, h2, h3⟩ := ih.mp h
          exact ⟨j, h1, by omega, h3⟩
      · rintro ⟨j, h1, h2, h3⟩
        by_cases hj : j = n
        · subst hj; rw [if_pos h3]
          have := ct_mono f h1; omega
        · have := ih.mpr ⟨j, h1, by omega, h3⟩
          omega
section PW
variable {g : fs_G} {d : Nat} {M : fs_M}
theorem c_has (b : Int32) {k : Nat} (hk : k < 32) : fs_Ct g m_X8_has [.int b, .int (nI k)] M (fun r M' => r = some (.int (bI (bt b k))) ∧ M = M') := by
  refine fs_enterC (by decide) (by simp [fs_ok]) (Nat.le_of_ble_eq_true rfl) (fun d => S_X8_has_0 ?_)
  show T_X8_has_0 g d _ [.int b, .int (nI k)] [] _
  simp only [T_X8_has_0, fi_const, fi_iload, fi_aload, fi_istore, fi_astore, fi_iinc, fi_bin, fi_div, fi_un, fi_dup, fi_dup2, fi_pop, fi_if, fi_cmp, fi_getf, fi_putf, fi_putr, fi_ald, fi_ast, fi_alen, fi_iret, fi_zret, fi_vret, fi_cut, fi_no, fi_s0, fi_s1, fi_s2, fi_s3, fi_s4, fi_v0, fi_v1, fi_v2, fi_v3, fi_v4, fi_v5, fi_n0, fi_n1, fi_n2, fi_mm, fi_stat, fi_alds, fi_tsw, List.getElem?_cons_zero, List.getElem?_cons_succ, List.set_cons_zero, List.set_cons_succ, List.length_cons, List.length_nil, Option.toList_some, Option.toList_none, List.cons_append, List.nil_append, Value.category]
  simp only [bt_has hk]
  cases hb : bt b k <;> simp [bI]
theorem c_between (a b : Int32) : fs_Ct g m_X7_between [.int a, .int b] M (fun r M' => r = some (.int (btw a b)) ∧ M = M') := by
  refine fs_enterC (by decide) (by simp [fs_ok]) (Nat.le_of_ble_eq_true rfl) (fun d => S_X7_between_0 ?_)
  show T_X7_between_0 g d _ [.int a, .int b] [] _
  simp only [T_X7_between_0, fi_const, fi_iload, fi_aload, fi_istore, fi_astore, fi_iinc, fi_bin, fi_div, fi_un, fi_dup, fi_dup2, fi_pop, fi_if, fi_cmp, fi_getf, fi_putf, fi_putr, fi_ald, fi_ast, fi_alen, fi_iret, fi_zret, fi_vret, fi_cut, fi_no, fi_s0, fi_s1, fi_s2, fi_s3, fi_s4, fi_v0, fi_v1, fi_v2, fi_v3, fi_v4, fi_v5, fi_n0, fi_n1, fi_n2, fi_mm, fi_stat, fi_alds, fi_tsw, List.getElem?_cons_zero, List.getElem?_cons_succ, List.set_cons_zero, List.set_cons_succ, List.length_cons, List.length_nil, Option.toList_some, Option.toList_none, List.cons_append, List.nil_append, Value.category]
  simp [btw]
theorem l_first (w : Int32) : ∀ n k, k + n = 12 → fs_R g m_X7_first d (0, 0) 2 [.int w, .int (nI k)] [] M (fun r M' => r = some (.int (fstB (bt w) n k)) ∧ M = M')
  | 0, k, h => by
    refine S_X7_first_2 ?_
    simp only [T_X7_first_2, fi_const, fi_iload, fi_aload, fi_istore, fi_astore, fi_iinc, fi_bin, fi_div, fi_un, fi_dup, fi_dup2, fi_pop, fi_if, fi_cmp, fi_getf, fi_putf, fi_putr, fi_ald, fi_ast, fi_alen, fi_iret, fi_zret, fi_vret, fi_cut, fi_no, fi_s0, fi_s1, fi_s2, fi_s3, fi_s4, fi_v0, fi_v1, fi_v2, fi_v3, fi_v4, fi_v5, fi_n0, fi_n1, fi_n2, fi_mm, fi_stat, fi_alds, fi_tsw, List.getElem?_cons_zero, List.getElem?_cons_succ, List.set_cons_zero, List.set_cons_succ, List.length_cons, List.length_nil, Option.toList_some, Option.toList_none, List.cons_append, List.nil_append, Value.category]
    refine pk_le 12 k (fun _ => ?_) (fun h2 => by omega)
    simp [fstB]
  | n + 1, k, h => by
    refine S_X7_first_2 ?_
    simp only [T_X7_first_2, fi_const, fi_iload, fi_aload, fi_istore, fi_astore, fi_iinc, fi_bin, fi_div, fi_un, fi_dup, fi_dup2, fi_pop, fi_if, fi_cmp, fi_getf, fi_putf, fi_putr, fi_ald, fi_ast, fi_alen, fi_iret, fi_zret, fi_vret, fi_cut, fi_no, fi_s0, fi_s1, fi_s2, fi_s3, fi_s4, fi_v0, fi_v1, fi_v2, fi_v3, fi_v4, fi_v5, fi_n0, fi_n1, fi_n2, fi_mm, fi_stat, fi_alds, fi_tsw, List.getElem?_cons_zero, List.getElem?_cons_succ, List.set_cons_zero, List.set_cons_succ, List.length_cons, List.length_nil, Option.toList_some, Option.toList_none, List.cons_append, List.nil_append, Value.category]
    refine pk_le 12 k (fun h2 => by omega) (fun _ => ⟨by decide, (c_has w (by omega)).mono ?_⟩)
    rintro r M' ⟨rfl, rfl⟩
    simp only [fi_const, fi_iload, fi_aload, fi_istore, fi_astore, fi_iinc, fi_bin, fi_div, fi_un, fi_dup, fi_dup2, fi_pop, fi_if, fi_cmp, fi_getf, fi_putf, fi_putr, fi_ald, fi_ast, fi_alen, fi_iret, fi_zret, fi_vret, fi_cut, fi_no, fi_s0, fi_s1, fi_s2, fi_s3, fi_s4, fi_v0, fi_v1, fi_v2, fi_v3, fi_v4, fi_v5, fi_n0, fi_n1, fi_n2, fi_mm, fi_stat, fi_alds, fi_tsw, List.getElem?_cons_zero, List.getElem?_cons_succ, List.set_cons_zero, List.set_cons_succ, List.length_cons, List.length_nil, Option.toList_some, Option.toList_none, List.cons_append, List.nil_append, Value.category, bI_eq0, nI_1]
    refine ⟨fun hb => ?_, fun hb => ?_⟩
    · rw [fstB, if_neg (by simp [hb])]
      exact l_first w n (k + 1) (by omega)
    · simp [fstB, hb]
theorem c_first (w : Int32) : fs_Ct g m_X7_first [.int w] M (fun r M' => r = some (.int (fstB (bt w) 12 0)) ∧ M = M') := by
  refine fs_enterC (by decide) (by simp [fs_ok]) (Nat.le_of_ble_eq_true rfl) (fun d => S_X7_first_0 ?_)
  show T_X7_first_0 g d _ [.int w, .null] [] _
  simp only [T_X7_first_0, fi_const, fi_iload, fi_aload, fi_istore, fi_astore, fi_iinc, fi_bin, fi_div, fi_un, fi_dup, fi_dup2, fi_pop, fi_if, fi_cmp, fi_getf, fi_putf, fi_putr, fi_ald, fi_ast, fi_alen, fi_iret, fi_zret, fi_vret, fi_cut, fi_no, fi_s0, fi_s1, fi_s2, fi_s3, fi_s4, fi_v0, fi_v1, fi_v2, fi_v3, fi_v4, fi_v5, fi_n0, fi_n1, fi_n2, fi_mm, fi_stat, fi_alds, fi_tsw, List.getElem?_cons_zero, List.getElem?_cons_succ, List.set_cons_zero, List.set_cons_succ, List.length_cons, List.length_nil, Option.toList_some, Option.toList_none, List.cons_append, List.nil_append, Value.category]
  exact l_first w 12 0 rfl
theorem m1_eq (x : Int32) : x + (-1) = x - 1 := by rw [Int32.sub_eq_add_neg]
theorem l_last (w : Int32) : ∀ n, n ≤ 12 → fs_R g m_X7_last d (0, 0) 3 [.int w, .int (nI n - 1)] [] M (fun r M' => r = some (.int (lstB (bt w) n)) ∧ M = M')
  | 0, h => by
    refine S_X7_last_3 ?_
    simp only [T_X7_last_3, fi_const, fi_iload, fi_aload, fi_istore, fi_astore, fi_iinc, fi_bin, fi_div, fi_un, fi_dup, fi_dup2, fi_pop, fi_if, fi_cmp, fi_getf, fi_putf, fi_putr, fi_ald, fi_ast, fi_alen, fi_iret, fi_zret, fi_vret, fi_cut, fi_no, fi_s0, fi_s1, fi_s2, fi_s3, fi_s4, fi_v0, fi_v1, fi_v2, fi_v3, fi_v4, fi_v5, fi_n0, fi_n1, fi_n2, fi_mm, fi_stat, fi_alds, fi_tsw, List.getElem?_cons_zero, List.getElem?_cons_succ, List.set_cons_zero, List.set_cons_succ, List.length_cons, List.length_nil, Option.toList_some, Option.toList_none, List.cons_append, List.nil_append, Value.category]
    refine ⟨fun _ => by simp [lstB], fun h2 => absurd (by decide) h2⟩
  | n + 1, h => by
    rw [nI_pred]
    refine S_X7_last_3 ?_
    simp only [T_X7_last_3, fi_const, fi_iload, fi_aload, fi_istore, fi_astore, fi_iinc, fi_bin, fi_div, fi_un, fi_dup, fi_dup2, fi_pop, fi_if, fi_cmp, fi_getf, fi_putf, fi_putr, fi_ald, fi_ast, fi_alen, fi_iret, fi_zret, fi_vret, fi_cut, fi_no, fi_s0, fi_s1, fi_s2, fi_s3, fi_s4, fi_v0, fi_v1, fi_v2, fi_v3, fi_v4, fi_v5, fi_n0, fi_n1, fi_n2, fi_mm, fi_stat, fi_alds, fi_tsw, List.getElem?_cons_zero, List.getElem?_cons_succ, List.set_cons_zero, List.set_cons_succ, List.length_cons, List.length_nil, Option.toList_some, Option.toList_none, List.cons_append, List.nil_append, Value.category]
    refine ⟨fun h2 => absurd h2 (nI_pos (by omega)), fun _ => ⟨by decide, (c_has w (k := n) (by omega)).mono ?_⟩⟩
    rintro r M' ⟨rfl, rfl⟩
    simp only [fi_const, fi_iload, fi_aload, fi_istore, fi_astore, fi_iinc, fi_bin, fi_div, fi_un, fi_dup, fi_dup2, fi_pop, fi_if, fi_cmp, fi_getf, fi_putf, fi_putr, fi_ald, fi_ast, fi_alen, fi_iret, fi_zret, fi_vret, fi_cut, fi_no, fi_s0, fi_s1, fi_s2, fi_s3, fi_s4, fi_v0, fi_v1, fi_v2, fi_v3, fi_v4, fi_v5, fi_n0, fi_n1, fi_n2, fi_mm, fi_stat, fi_alds, fi_tsw, List.getElem?_cons_zero, List.getElem?_cons_succ, List.set_cons_zero, List.set_cons_succ, List.length_cons, List.length_nil, Option.toList_some, Option.toList_none, List.cons_append, List.nil_append, Value.category, bI_eq0, m1_eq]
    refine ⟨fun hb => ?_, fun hb => ?_⟩
    · rw [lstB, if_neg (by simp [hb])]
      exact l_last w n (by omega)
    · simp [lstB, hb]
theorem c_last (w : Int32) : fs_Ct g m_X7_last [.int w] M (fun r M' => r = some (.int (lstB (bt w) 12)) ∧ M = M') := by
  refine fs_enterC (by decide) (by simp [fs_ok]) (Nat.le_of_ble_eq_true rfl) (fun d => S_X7_last_0 ?_)
  show T_X7_last_0 g d _ [.int w, .null] [] _
  simp only [T_X7_last_0, fi_const, fi_iload, fi_aload, fi_istore, fi_astore, fi_iinc, fi_bin, fi_div, fi_un, fi_dup, fi_dup2, fi_pop, fi_if, fi_cmp, fi_getf, fi_putf, fi_putr, fi_ald, fi_ast, fi_alen, fi_iret, fi_zret, fi_vret, fi_cut, fi_no, fi_s0, fi_s1, fi_s2, fi_s3, fi_s4, fi_v0, fi_v1, fi_v2, fi_v3, fi_v4, fi_v5, fi_n0, fi_n1, fi_n2, fi_mm, fi_stat, fi_alds, fi_tsw, List.getElem?_cons_zero, List.getElem?_cons_succ, List.set_cons_zero, List.set_cons_succ, List.length_cons, List.length_nil, Option.toList_some, Option.toList_none, List.cons_append, List.nil_append, Value.category]
  exact l_last w 12 (Nat.le_refl _)
/-- a set of days: no bit from 12 on -/
def d12 (w : Int32) : Prop := ∀ k, 12 ≤ k → bt w k = false
theorem btw0 {k : Nat} (h : k < 12) : ∀ j, j < 32 → bt (btw 0 (nI (k + 1))) j = decide (j ≤ k) := by
  have : ∀ k, k < 12 → ∀ j, j < 32 → bt (btw 0 (nI (k + 1))) j = decide (j ≤ k) := by decide +kernel
  exact this k h
theorem and_btw0 {w : Int32} {k : Nat} (h : k < 12) : (w &&& btw 0 (nI (k + 1)) = 0) ↔ ¬ 0 < ct (bt w) (k + 1) := by
  rw [ct_pos, bt_eq0]
  constructor
  · rintro h1 ⟨j, hj, hb⟩
    have := h1 j (by omega)
    rw [bt_and, btw0 h j (by omega), hb] at this
    simp at this
    omega
  · intro h1 j hj
    rw [bt_and, btw0 h j hj]
    by_cases hjk : j ≤ k
    · cases hb : bt w j
      · rfl
      · exact absurd ⟨j, by omega, hb⟩ h1
    · simp [hjk]
theorem shr_ct {w : Int32} (hw : d12 w) {k : Nat} (h : k < 12) : (w >>> (nI k &&& 31) = 0) ↔ ¬ ct (bt w) k < ct (bt w) 12 := by
  rw [ct_lt (by omega), bt_eq0]
  constructor
  · rintro h1 ⟨j, hj, hj2, hb⟩
    have := h1 (j - k) (by omega)
    rw [bt_shr w (by omega) (by omega), show k + (j - k) = j by omega, hb] at this
    cases this
  · intro h1 j hj
    by_cases hjk : k + j < 32
    · rw [bt_shr w (by omega) hjk]
      cases hb : bt w (k + j)
      · rfl
      · exfalso
        by_cases h12 : k + j < 12
        · exact h1 ⟨k + j, by omega, h12, hb⟩
        · rw [hw _ (by omega)] at hb; cases hb
    · have h31 : bt w 31 = false := hw 31 (by omega)
      simp only [bt, Int32.toBitVec_shiftRight, BitVec.sshiftRight_eq', sh_am (show k < 32 by omega), BitVec.getLsbD_sshiftRight]
      have hm : (w.toBitVec).msb = false := by
        rw [BitVec.msb_eq_getLsbD_last]
        exact h31
      simp [hm]
      intro _ h2
      omega
theorem bt_or1 {x : Int32} {d k : Nat} (hd : d < 32) (hk : k < 32) : bt (x ||| 1 <<< (nI d &&& 31)) k = (bt x k || decide (k = d)) := by rw [bt_or, bt_one hd hk]
/-- the set of the days k < n with f -/
def isSet (x : Int32) (f : Nat → Bool) (n : Nat) : Prop := ∀ k, k < 32 → bt x k = (decide (k < n) && f k)
theorem isSet_0 (f : Nat → Bool) : isSet 0 f 0 := fun k _ => by simp [bt_zero]
theorem isSet_in {x : Int32} {f : Nat → Bool} {n : Nat} (h : isSet x f n) (hn : n < 32) (hf : f n = true) : isSet (x ||| 1 <<< (nI n &&& 31)) f (n + 1) := by
  intro k hk
  rw [bt_or1 hn hk, h k hk]
  by_cases e : k = n
  · subst e; simp [hf]
  · simp [e, show (k < n + 1) = (k < n) by simp; omega]
theorem isSet_out {x : Int32} {f : Nat → Bool} {n : Nat} (h : isSet x f n) (hf : f n = false) : isSet x f (n + 1) := by
  intro k hk
  rw [h k hk]
  by_cases e : k = n
  · subst e; simp [hf]
  · simp [show (k < n + 1) = (k < n) by simp; omega]
theorem isSet.d12 {x : Int32} {f : Nat → Bool} (h : isSet x f 12) : d12 x := by
  intro k hk
  by_cases h2 : k < 32
  · rw [h k h2]; simp; omega
  · exact bt_ge x (by omega)
theorem isSet.u {x y : Int32} {f h : Nat → Bool} {n : Nat} (h1 : isSet x f n) (h2 : isSet y h n) (e : ∀ k, k < n → f k = h k) : x = y := by
  apply bt_ext
  intro k hk
  rw [h1 k hk, h2 k hk]
  by_cases hn : k < n
  · rw [e k hn]
  · simp [hn]
theorem l_ftl (w : Int32) (hw : d12 w) : ∀ n k x j1 j2, k + n = 12 → isSet x (inFL (bt w)) k → fs_R g m_X7_firstToLast d (0, 0) 4 [.int w, .int x, .int (nI k), j1, j2] [] M (fun r M' => (∃ x, r = some (.int x) ∧ isSet x (inFL (bt w)) 12) ∧ M = M')
  | 0, k, x, j1, j2, h, hx => by
    refine S_X7_firstToLast_4 ?_
    simp only [T_X7_firstToLast_4, fi_const, fi_iload, fi_aload, fi_istore, fi_astore, fi_iinc, fi_bin, fi_div, fi_un, fi_dup, fi_dup2, fi_pop, fi_if, fi_cmp, fi_getf, fi_putf, fi_putr, fi_ald, fi_ast, fi_alen, fi_iret, fi_zret, fi_vret, fi_cut, fi_no, fi_s0, fi_s1, fi_s2, fi_s3, fi_s4, fi_v0, fi_v1, fi_v2, fi_v3, fi_v4, fi_v5, fi_n0, fi_n1, fi_n2, fi_mm, fi_stat, fi_alds, fi_tsw, List.getElem?_cons_zero, List.getElem?_cons_succ, List.set_cons_zero, List.set_cons_succ, List.length_cons, List.length_nil, Option.toList_some, Option.toList_none, List.cons_append, List.nil_append, Value.category]
    refine pk_le 12 k (fun _ => ?_) (fun h2 => by omega)
    rw [show k = 12 by omega] at hx
    exact ⟨⟨x, rfl, hx⟩, trivial⟩
  | n + 1, k, x, j1, j2, h, hx => by
    refine S_X7_firstToLast_4 ?_
    simp only [T_X7_firstToLast_4, fi_const, fi_iload, fi_aload, fi_istore, fi_astore, fi_iinc, fi_bin, fi_div, fi_un, fi_dup, fi_dup2, fi_pop, fi_if, fi_cmp, fi_getf, fi_putf, fi_putr, fi_ald, fi_ast, fi_alen, fi_iret, fi_zret, fi_vret, fi_cut, fi_no, fi_s0, fi_s1, fi_s2, fi_s3, fi_s4, fi_v0, fi_v1, fi_v2, fi_v3, fi_v4, fi_v5, fi_n0, fi_n1, fi_n2, fi_mm, fi_stat, fi_alds, fi_tsw, List.getElem?_cons_zero, List.getElem?_cons_succ, List.set_cons_zero, List.set_cons_succ, List.length_cons, List.length_nil, Option.toList_some, Option.toList_none, List.cons_append, List.nil_append, Value.category]
    refine pk_le 12 k (fun h2 => by omega) (fun _ => ⟨by decide, (c_between _ _).mono ?_⟩)
    rintro r M' ⟨rfl, rfl⟩
    simp only [fi_const, fi_iload, fi_aload, fi_istore, fi_astore, fi_iinc, fi_bin, fi_div, fi_un, fi_dup, fi_dup2, fi_pop, fi_if, fi_cmp, fi_getf, fi_putf, fi_putr, fi_ald, fi_ast, fi_alen, fi_iret, fi_zret, fi_vret, fi_cut, fi_no, fi_s0, fi_s1, fi_s2, fi_s3, fi_s4, fi_v0, fi_v1, fi_v2, fi_v3, fi_v4, fi_v5, fi_n0, fi_n1, fi_n2, fi_mm, fi_stat, fi_alds, fi_tsw, List.getElem?_cons_zero, List.getElem?_cons_succ, List.set_cons_zero, List.set_cons_succ, List.length_cons, List.length_nil, Option.toList_some, Option.toList_none, List.cons_append, List.nil_append, Value.category, nI_1, and_btw0 (show k < 12 by omega), shr_ct hw (show k < 12 by omega)]
    have hin : ∀ b1 b2 : Int32, (b1 = if 0 < ct (bt w) (k + 1) then 1 else 0) → (b2 = if ct (bt w) k < ct (bt w) 12 then 1 else 0) → fs_R g m_X7_firstToLast d (0, 0) 39 [.int w, .int x, .int (nI k), .int b1, j2] [.int b2] M (fun r M' => (∃ x, r = some (.int x) ∧ isSet x (inFL (bt w)) 12) ∧ M = M') := by
      intro b1 b2 e1 e2
      refine S_X7_firstToLast_39 ?_
      simp only [T_X7_firstToLast_39, fi_const, fi_iload, fi_aload, fi_istore, fi_astore, fi_iinc, fi_bin, fi_div, fi_un, fi_dup, fi_dup2, fi_pop, fi_if, fi_cmp, fi_getf, fi_putf, fi_putr, fi_ald, fi_ast, fi_alen, fi_iret, fi_zret, fi_vret, fi_cut, fi_no, fi_s0, fi_s1, fi_s2, fi_s3, fi_s4, fi_v0, fi_v1, fi_v2, fi_v3, fi_v4, fi_v5, fi_n0, fi_n1, fi_n2, fi_mm, fi_stat, fi_alds, fi_tsw, List.getElem?_cons_zero, List.getElem?_cons_succ, List.set_cons_zero, List.set_cons_succ, List.length_cons, List.length_nil, Option.toList_some, Option.toList_none, List.cons_append, List.nil_append, Value.category]
      simp only [nI_1]
      refine ⟨fun hb => ?_, fun hb => ⟨fun hb2 => ?_, fun hb2 => ?_⟩⟩
      · have hb' : ¬ 0 < ct (bt w) (k + 1) := fun q => by rw [if_pos q] at e1; rw [e1] at hb; exact absurd hb (by decide)
        exact l_ftl w hw n (k + 1) _ _ _ (by omega) (isSet_out hx (by simp [inFL]; intro q; omega))
      · have hb' : ¬ ct (bt w) k < ct (bt w) 12 := fun q => by rw [if_pos q] at e2; rw [e2] at hb2; exact absurd hb2 (by decide)
        exact l_ftl w hw n (k + 1) _ _ _ (by omega) (isSet_out hx (by simp [inFL]; intro q; omega))
      · have h1 : 0 < ct (bt w) (k + 1) := Decidable.byContradiction fun q => by rw [if_neg q] at e1; exact hb e1
        have h2 : ct (bt w) k < ct (bt w) 12 := Decidable.byContradiction fun q => by rw [if_neg q] at e2; exact hb2 e2
        exact l_ftl w hw n (k + 1) _ _ _ (by omega) (isSet_in hx (by omega) (by simp [inFL, h1, h2]))
    refine ⟨fun h1 => ⟨fun h2 => hin 0 0 (by rw [if_neg h1]) (by rw [if_neg h2]), fun h2 => hin 0 1 (by rw [if_neg h1]) (by rw [if_pos (Decidable.of_not_not h2)])⟩, fun h1 => ⟨fun h2 => hin 1 0 (by rw [if_pos (Decidable.of_not_not h1)]) (by rw [if_neg h2]), fun h2 => hin 1 1 (by rw [if_pos (Decidable.of_not_not h1)]) (by rw [if_pos (Decidable.of_not_not h2)])⟩⟩
theorem c_firstToLast (w : Int32) (hw : d12 w) : fs_Ct g m_X7_firstToLast [.int w] M (fun r M' => (∃ x, r = some (.int x) ∧ isSet x (inFL (bt w)) 12) ∧ M = M') := by
  refine fs_enterC (by decide) (by simp [fs_ok]) (Nat.le_of_ble_eq_true rfl) (fun d => S_X7_firstToLast_0 ?_)
  show T_X7_firstToLast_0 g d _ [.int w, .null, .null, .null, .null] [] _
  simp only [T_X7_firstToLast_0, fi_const, fi_iload, fi_aload, fi_istore, fi_astore, fi_iinc, fi_bin, fi_div, fi_un, fi_dup, fi_dup2, fi_pop, fi_if, fi_cmp, fi_getf, fi_putf, fi_putr, fi_ald, fi_ast, fi_alen, fi_iret, fi_zret, fi_vret, fi_cut, fi_no, fi_s0, fi_s1, fi_s2, fi_s3, fi_s4, fi_v0, fi_v1, fi_v2, fi_v3, fi_v4, fi_v5, fi_n0, fi_n1, fi_n2, fi_mm, fi_stat, fi_alds, fi_tsw, List.getElem?_cons_zero, List.getElem?_cons_succ, List.set_cons_zero, List.set_cons_succ, List.length_cons, List.length_nil, Option.toList_some, Option.toList_none, List.cons_append, List.nil_append, Value.category]
  exact l_ftl w hw 12 0 0 _ _ rfl (isSet_0 _)
theorem l_drop (w : Int32) : ∀ n k lo da be j1 dr, k + n = 12 → fs_R g m_X7_dropped d (0, 0) 12 [.int w, dr, .int lo, .int da, .int be, .int (nI k), j1] [] M (fun r M' => r = some (.int (drG (bt w) n k lo da be)) ∧ M = M')
  | 0, k, lo, da, be, j1, dr, h => by
    refine S_X7_dropped_12 ?_
    simp only [T_X7_dropped_12, fi_const, fi_iload, fi_aload, fi_istore, fi_astore, fi_iinc, fi_bin, fi_div, fi_un, fi_dup, fi_dup2, fi_pop, fi_if, fi_cmp, fi_getf, fi_putf, fi_putr, fi_ald, fi_ast, fi_alen, fi_iret, fi_zret, fi_vret, fi_cut, fi_no, fi_s0, fi_s1, fi_s2, fi_s3, fi_s4, fi_v0, fi_v1, fi_v2, fi_v3, fi_v4, fi_v5, fi_n0, fi_n1, fi_n2, fi_mm, fi_stat, fi_alds, fi_tsw, List.getElem?_cons_zero, List.getElem?_cons_succ, List.set_cons_zero, List.set_cons_succ, List.length_cons, List.length_nil, Option.toList_some, Option.toList_none, List.cons_append, List.nil_append, Value.category]
    refine pk_le 12 k (fun _ => ?_) (fun h2 => by omega)
    simp [drG]
  | n + 1, k, lo, da, be, j1, dr, h => by
    refine S_X7_dropped_12 ?_
    simp only [T_X7_dropped_12, fi_const, fi_iload, fi_aload, fi_istore, fi_astore, fi_iinc, fi_bin, fi_div, fi_un, fi_dup, fi_dup2, fi_pop, fi_if, fi_cmp, fi_getf, fi_putf, fi_putr, fi_ald, fi_ast, fi_alen, fi_iret, fi_zret, fi_vret, fi_cut, fi_no, fi_s0, fi_s1, fi_s2, fi_s3, fi_s4, fi_v0, fi_v1, fi_v2, fi_v3, fi_v4, fi_v5, fi_n0, fi_n1, fi_n2, fi_mm, fi_stat, fi_alds, fi_tsw, List.getElem?_cons_zero, List.getElem?_cons_succ, List.set_cons_zero, List.set_cons_succ, List.length_cons, List.length_nil, Option.toList_some, Option.toList_none, List.cons_append, List.nil_append, Value.category]
    refine pk_le 12 k (fun h2 => by omega) (fun _ => ⟨by decide, (c_has w (k := k) (by omega)).mono ?_⟩)
    rintro r M' ⟨rfl, rfl⟩
    simp only [fi_const, fi_iload, fi_aload, fi_istore, fi_astore, fi_iinc, fi_bin, fi_div, fi_un, fi_dup, fi_dup2, fi_pop, fi_if, fi_cmp, fi_getf, fi_putf, fi_putr, fi_ald, fi_ast, fi_alen, fi_iret, fi_zret, fi_vret, fi_cut, fi_no, fi_s0, fi_s1, fi_s2, fi_s3, fi_s4, fi_v0, fi_v1, fi_v2, fi_v3, fi_v4, fi_v5, fi_n0, fi_n1, fi_n2, fi_mm, fi_stat, fi_alds, fi_tsw, List.getElem?_cons_zero, List.getElem?_cons_succ, List.set_cons_zero, List.set_cons_succ, List.length_cons, List.length_nil, Option.toList_some, Option.toList_none, List.cons_append, List.nil_append, Value.category, bI_eq0, nI_1]
    refine ⟨fun hb => ?_, fun hb => ⟨fun e1 => ?_, fun e1 => ⟨fun e2 => ?_, fun e2 => ⟨by decide, (c_between _ _).mono ?_⟩⟩⟩⟩
    · rw [drG, if_neg (by simp [hb])]
      exact l_drop w n (k + 1) _ _ _ _ _ (by omega)
    · rw [drG, if_pos (by simpa using hb), if_pos e1]
      exact l_drop w n (k + 1) _ _ _ _ _ (by omega)
    · rw [drG, if_pos (by simpa using hb), if_neg e1, if_pos e2]
      exact l_drop w n (k + 1) _ _ _ _ _ (by omega)
    · rintro r M' ⟨rfl, rfl⟩
      simp only [fi_const, fi_iload, fi_aload, fi_istore, fi_astore, fi_iinc, fi_bin, fi_div, fi_un, fi_dup, fi_dup2, fi_pop, fi_if, fi_cmp, fi_getf, fi_putf, fi_putr, fi_ald, fi_ast, fi_alen, fi_iret, fi_zret, fi_vret, fi_cut, fi_no, fi_s0, fi_s1, fi_s2, fi_s3, fi_s4, fi_v0, fi_v1, fi_v2, fi_v3, fi_v4, fi_v5, fi_n0, fi_n1, fi_n2, fi_mm, fi_stat, fi_alds, fi_tsw, List.getElem?_cons_zero, List.getElem?_cons_succ, List.set_cons_zero, List.set_cons_succ, List.length_cons, List.length_nil, Option.toList_some, Option.toList_none, List.cons_append, List.nil_append, Value.category, nI_1]
      rw [drG, if_pos (by simpa using hb), if_neg e1, if_neg e2]
      exact l_drop w n (k + 1) _ _ _ _ _ (by omega)
theorem c_dropped (w drop : Int32) : fs_Ct g m_X7_dropped [.int w, .int drop] M (fun r M' => r = some (.int (drB (bt w) drop)) ∧ M = M') := by
  refine fs_enterC (by decide) (by simp [fs_ok]) (Nat.le_of_ble_eq_true rfl) (fun d => S_X7_dropped_0 ?_)
  show T_X7_dropped_0 g d _ [.int w, .int drop, .null, .null, .null, .null, .null] [] _
  simp only [T_X7_dropped_0, fi_const, fi_iload, fi_aload, fi_istore, fi_astore, fi_iinc, fi_bin, fi_div, fi_un, fi_dup, fi_dup2, fi_pop, fi_if, fi_cmp, fi_getf, fi_putf, fi_putr, fi_ald, fi_ast, fi_alen, fi_iret, fi_zret, fi_vret, fi_cut, fi_no, fi_s0, fi_s1, fi_s2, fi_s3, fi_s4, fi_v0, fi_v1, fi_v2, fi_v3, fi_v4, fi_v5, fi_n0, fi_n1, fi_n2, fi_mm, fi_stat, fi_alds, fi_tsw, List.getElem?_cons_zero, List.getElem?_cons_succ, List.set_cons_zero, List.set_cons_succ, List.length_cons, List.length_nil, Option.toList_some, Option.toList_none, List.cons_append, List.nil_append, Value.category]
  exact l_drop w 12 0 _ _ _ _ _ rfl
/-- the held days -/
def heB (f : Nat → Bool) (drop : Int32) (k : Nat) : Bool := inFL f k && !f k && !bt (drB f drop) k
theorem c_held (w drop : Int32) (hw : d12 w) : fs_Ct g m_X7_held [.int w, .int drop] M (fun r M' => (∃ x, r = some (.int x) ∧ isSet x (heB (bt w) drop) 12) ∧ M = M') := by
  refine fs_enterC (by decide) (by simp [fs_ok]) (Nat.le_of_ble_eq_true rfl) (fun d => S_X7_held_0 ?_)
  show T_X7_held_0 g d _ [.int w, .int drop] [] _
  simp only [T_X7_held_0, fi_const, fi_iload, fi_aload, fi_istore, fi_astore, fi_iinc, fi_bin, fi_div, fi_un, fi_dup, fi_dup2, fi_pop, fi_if, fi_cmp, fi_getf, fi_putf, fi_putr, fi_ald, fi_ast, fi_alen, fi_iret, fi_zret, fi_vret, fi_cut, fi_no, fi_s0, fi_s1, fi_s2, fi_s3, fi_s4, fi_v0, fi_v1, fi_v2, fi_v3, fi_v4, fi_v5, fi_n0, fi_n1, fi_n2, fi_mm, fi_stat, fi_alds, fi_tsw, List.getElem?_cons_zero, List.getElem?_cons_succ, List.set_cons_zero, List.set_cons_succ, List.length_cons, List.length_nil, Option.toList_some, Option.toList_none, List.cons_append, List.nil_append, Value.category]
  refine ⟨by decide, (c_firstToLast w hw).mono ?_⟩
  rintro r M' ⟨⟨x, rfl, hx⟩, rfl⟩
  simp only [fi_const, fi_iload, fi_aload, fi_istore, fi_astore, fi_iinc, fi_bin, fi_div, fi_un, fi_dup, fi_dup2, fi_pop, fi_if, fi_cmp, fi_getf, fi_putf, fi_putr, fi_ald, fi_ast, fi_alen, fi_iret, fi_zret, fi_vret, fi_cut, fi_no, fi_s0, fi_s1, fi_s2, fi_s3, fi_s4, fi_v0, fi_v1, fi_v2, fi_v3, fi_v4, fi_v5, fi_n0, fi_n1, fi_n2, fi_mm, fi_stat, fi_alds, fi_tsw, List.getElem?_cons_zero, List.getElem?_cons_succ, List.set_cons_zero, List.set_cons_succ, List.length_cons, List.length_nil, Option.toList_some, Option.toList_none, List.cons_append, List.nil_append, Value.category]
  refine ⟨by decide, (c_dropped _ _).mono ?_⟩
  rintro r M' ⟨rfl, rfl⟩
  simp only [fi_const, fi_iload, fi_aload, fi_istore, fi_astore, fi_iinc, fi_bin, fi_div, fi_un, fi_dup, fi_dup2, fi_pop, fi_if, fi_cmp, fi_getf, fi_putf, fi_putr, fi_ald, fi_ast, fi_alen, fi_iret, fi_zret, fi_vret, fi_cut, fi_no, fi_s0, fi_s1, fi_s2, fi_s3, fi_s4, fi_v0, fi_v1, fi_v2, fi_v3, fi_v4, fi_v5, fi_n0, fi_n1, fi_n2, fi_mm, fi_stat, fi_alds, fi_tsw, List.getElem?_cons_zero, List.getElem?_cons_succ, List.set_cons_zero, List.set_cons_succ, List.length_cons, List.length_nil, Option.toList_some, Option.toList_none, List.cons_append, List.nil_append, Value.category]
  refine ⟨⟨_, rfl, fun k hk => ?_⟩, trivial⟩
  rw [bt_and, bt_and, bt_not _ hk, bt_not _ hk, hx k hk]
  simp [heB, Bool.and_assoc]
/-- the formula of bitCount -/
def bcF (x : Int32) : Int32 :=
  let us := fun (x y : Int32) => (x.toUInt32 >>> (y.toUInt32 &&& Int32.toUInt32 31)).toInt32
  let a := x - (us x 1 &&& 1431655765)
  let b := (a &&& 858993459) + (us a 2 &&& 858993459)
  let c := (b + us b 4) &&& 252645135
  let e := c + us c 8
  (e + us e 16) &&& 63
set_option maxRecDepth 100000 in
theorem bcF_ok : ∀ n, n < 4096 → bcF (nI n) = nI (ct (bt (nI n)) 12) := by decide +kernel
theorem d12_nI {w : Int32} (h : d12 w) : ∃ n, n < 4096 ∧ w = nI n := by
  refine ⟨w.toBitVec.toNat, ?_, ?_⟩
  · have : w.toBitVec.toNat < 2 ^ 12 := by
      apply Nat.lt_pow_two_of_testBit
      intro i hi
      exact h i hi
    exact this
  · apply Int32.toBitVec_inj.mp
    apply BitVec.eq_of_toNat_eq
    rw [pk_tn (by have := w.toBitVec.isLt; omega)]
theorem c_bitCount (w : Int32) (hw : d12 w) : fs_Ct g m_J6_bitCount_0f7a4 [.int w] M (fun r M' => r = some (.int (nI (ct (bt w) 12))) ∧ M = M') := by
  obtain ⟨n, hn, rfl⟩ := d12_nI hw
  rw [← bcF_ok n hn]
  refine fs_enterC (by decide) (by simp [fs_ok]) (Nat.le_of_ble_eq_true rfl) (fun d => S_J6_bitCount_0f7a4_0 ?_)
  show T_J6_bitCount_0f7a4_0 g d _ [.int (nI n)] [] _
  simp only [T_J6_bitCount_0f7a4_0, fi_const, fi_iload, fi_aload, fi_istore, fi_astore, fi_iinc, fi_bin, fi_div, fi_un, fi_dup, fi_dup2, fi_pop, fi_if, fi_cmp, fi_getf, fi_putf, fi_putr, fi_ald, fi_ast, fi_alen, fi_iret, fi_zret, fi_vret, fi_cut, fi_no, fi_s0, fi_s1, fi_s2, fi_s3, fi_s4, fi_v0, fi_v1, fi_v2, fi_v3, fi_v4, fi_v5, fi_n0, fi_n1, fi_n2, fi_mm, fi_stat, fi_alds, fi_tsw, List.getElem?_cons_zero, List.getElem?_cons_succ, List.set_cons_zero, List.set_cons_succ, List.length_cons, List.length_nil, Option.toList_some, Option.toList_none, List.cons_append, List.nil_append, Value.category]
  exact ⟨rfl, trivial⟩
end PW
