/-! ===== the tokens of the reference ===== -/
def TXM (σ : Nat → Nat → Int32) (b : Nat → Nat) (L : Nat) : Prop := σ 56 10 = nI L ∧ L ≤ 900 ∧ ∀ i, i < L → b i < 256 ∧ σ 57 i = nI (b i)
def kM (k : Nat) : Int32 := match k with | 0 => 3 | 1 => 0 | 2 => 1 | 3 => 2 | _ => 4
def TM (σ : Nat → Nat → Int32) (b : Nat → Nat) (L k : Nat) : Prop := σ 56 13 = kM (tK b L k) ∧ σ 56 12 = nI (tS b L k) ∧ σ 56 11 = nI (tE b L k) ∧ (tK b L k = 2 → σ 56 14 = nI (tV b L k)) ∧ (tK b L k = 1 → σ 56 14 = tW b L k)
def tkM (σ σ' : Nat → Nat → Int32) : Prop := ∀ a c, ¬ (a = 56 ∧ 11 ≤ c ∧ c ≤ 14) → σ' a c = σ a c
theorem tkM.rf {σ : Nat → Nat → Int32} : tkM σ σ := fun _ _ _ => rfl
theorem tkM.tr {σ σ1 σ2 : Nat → Nat → Int32} (h : tkM σ σ1) (h2 : tkM σ1 σ2) : tkM σ σ2 := fun a c z => (h2 a c z).trans (h a c z)
theorem tkM.u {σ : Nat → Nat → Int32} {c : Nat} {x : Int32} (h1 : 11 ≤ c) (h2 : c ≤ 14) : tkM σ (fs_u σ 56 c x) := fun a e z => by
  simp only [fs_u]
  rw [if_neg (fun w => z ⟨w.1, by omega, by omega⟩)]
theorem tkM.ne {σ σ' : Nat → Nat → Int32} (h : tkM σ σ') {a : Nat} (ha : a ≠ 56) : σ' a = σ a := funext fun c => h a c (fun z => ha z.1)
theorem TXM.keep {σ σ' : Nat → Nat → Int32} {b : Nat → Nat} {L : Nat} (h : TXM σ b L) (hs : tkM σ σ') : TXM σ' b L := by
  obtain ⟨h1, h2, h3⟩ := h
  exact ⟨by rw [hs 56 10 (by omega)]; exact h1, h2, by rw [hs.ne (by decide)]; exact h3⟩
def hvF (b : Nat → Nat) (L j : Nat) : Int32 := if j < L then nI (b j) else -1
def smF (x : Int32) : Bool := !decide (x < 97) && !decide (122 < x)
def dgF (x : Int32) : Bool := !decide (x < 48) && !decide (57 < x)
theorem smF_hv {b : Nat → Nat} {L j : Nat} (hb : j < L → b j < 256) : smF (hvF b L j) = (decide (j < L) && isLt (b j)) := by
  unfold hvF
  by_cases q : j < L
  · rw [if_pos q, decide_eq_true q, Bool.true_and, Bool.eq_iff_iff, ← nB_let _ (hb q)]
    unfold smF
    simp
  · rw [if_neg q, decide_eq_false q, Bool.false_and]; decide
theorem dgF_hv {b : Nat → Nat} {L j : Nat} (hb : j < L → b j < 256) : dgF (hvF b L j) = (decide (j < L) && isDg (b j)) := by
  unfold hvF
  by_cases q : j < L
  · rw [if_pos q, decide_eq_true q, Bool.true_and, Bool.eq_iff_iff, ← nB_dig _ (hb q)]
    unfold dgF
    simp
  · rw [if_neg q, decide_eq_false q, Bool.false_and]; decide
/-- where the words stand -/
def oW (n : Nat) : Nat := match n with | 0 => 0 | 1 => 9 | 2 => 15 | 3 => 21 | 4 => 25 | 5 => 29 | 6 => 32 | 7 => 36 | 8 => 42 | 9 => 51 | 10 => 56 | 11 => 61 | _ => 66
def wA : List Int32 := [108, 111, 99, 97, 116, 105, 111, 110, 32, 97, 99, 116, 111, 114, 32, 115, 99, 101, 110, 101, 32, 115, 101, 116, 32, 100, 97, 121, 32, 105, 110, 32, 111, 117, 116, 32, 110, 105, 103, 104, 116, 32, 99, 97, 112, 97, 99, 105, 116, 121, 32, 109, 111, 118, 101, 32, 104, 111, 108, 100, 32, 100, 114, 111, 112, 32]
theorem oW_ok : ∀ n, n < 12 → oW (n + 1) = oW n + (wl n).length + 1 ∧ oW (n + 1) ≤ 66 ∧ wA.getD (oW n + (wl n).length) 0 = 32 ∧ ∀ j, j < (wl n).length → wA.getD (oW n + j) 0 = (wl n).getD j 0 ∧ ¬ (wl n).getD j 0 = 32 := by decide +kernel
section PT3
variable {g : fs_G} {d : Nat} {S : List fs_Sh} {fr : Bool} {σ : Nat → Nat → Int32} {τ : Nat → Nat → Int64} {b : Nat → Nat} {L : Nat}
theorem c_isSmall (x : Int32) {M : fs_M} : fs_Ct g m_X9_isSmall [.int x] M (fun r M' => r = some (.int (bI (smF x))) ∧ M = M') := by
  refine fs_enterC (by decide) (by simp [fs_ok]) (Nat.le_of_ble_eq_true rfl) (fun d => S_X9_isSmall_0 ?_)
  show T_X9_isSmall_0 g d _ [.int x] [] _
  simp only [T_X9_isSmall_0, fi_const, fi_iload, fi_aload, fi_istore, fi_astore, fi_iinc, fi_bin, fi_div, fi_un, fi_dup, fi_dup2, fi_pop, fi_if, fi_cmp, fi_getf, fi_putf, fi_putr, fi_ald, fi_ast, fi_alen, fi_iret, fi_zret, fi_vret, fi_cut, fi_no, fi_s0, fi_s1, fi_s2, fi_s3, fi_s4, fi_v0, fi_v1, fi_v2, fi_v3, fi_v4, fi_v5, fi_n0, fi_n1, fi_n2, fi_mm, fi_stat, fi_alds, fi_tsw, List.getElem?_cons_zero, List.getElem?_cons_succ, List.set_cons_zero, List.set_cons_succ, List.length_cons, List.length_nil, Option.toList_some, Option.toList_none, List.cons_append, List.nil_append, Value.category, true_and, k_0, k_1, k_2, k_3, k_4, false_implies, true_implies, reduceCtorEq]
  unfold smF
  refine ⟨fun q => ⟨Or.inl trivial, ?_, trivial⟩, fun q => ⟨fun q2 => ⟨Or.inl trivial, ?_, trivial⟩, fun q2 => ⟨Or.inr trivial, ?_, trivial⟩⟩⟩
  · simp [q, bI]
  · simp [q2, bI]
  · simp [q, q2, bI]
theorem c_isDigitM (x : Int32) {M : fs_M} : fs_Ct g m_X9_isDigit [.int x] M (fun r M' => r = some (.int (bI (dgF x))) ∧ M = M') := by
  refine fs_enterC (by decide) (by simp [fs_ok]) (Nat.le_of_ble_eq_true rfl) (fun d => S_X9_isDigit_0 ?_)
  show T_X9_isDigit_0 g d _ [.int x] [] _
  simp only [T_X9_isDigit_0, fi_const, fi_iload, fi_aload, fi_istore, fi_astore, fi_iinc, fi_bin, fi_div, fi_un, fi_dup, fi_dup2, fi_pop, fi_if, fi_cmp, fi_getf, fi_putf, fi_putr, fi_ald, fi_ast, fi_alen, fi_iret, fi_zret, fi_vret, fi_cut, fi_no, fi_s0, fi_s1, fi_s2, fi_s3, fi_s4, fi_v0, fi_v1, fi_v2, fi_v3, fi_v4, fi_v5, fi_n0, fi_n1, fi_n2, fi_mm, fi_stat, fi_alds, fi_tsw, List.getElem?_cons_zero, List.getElem?_cons_succ, List.set_cons_zero, List.set_cons_succ, List.length_cons, List.length_nil, Option.toList_some, Option.toList_none, List.cons_append, List.nil_append, Value.category, true_and, k_0, k_1, k_2, k_3, k_4, false_implies, true_implies, reduceCtorEq]
  unfold dgF
  refine ⟨fun q => ⟨Or.inl trivial, ?_, trivial⟩, fun q => ⟨fun q2 => ⟨Or.inl trivial, ?_, trivial⟩, fun q2 => ⟨Or.inr trivial, ?_, trivial⟩⟩⟩
  · simp [q, bI]
  · simp [q2, bI]
  · simp [q, q2, bI]
theorem c_here (hM : shM S 56) (hT : TXM σ b L) {j : Nat} (hj : j ≤ L) (h : σ 56 11 = nI j) : fs_Ct g m_X9_here [.ref 56] ((S, fr), σ, τ) (fun r M' => r = some (.int (hvF b L j)) ∧ ((S, fr), σ, τ) = M') := by
  obtain ⟨h10, hL, hb⟩ := id hT
  refine fs_enterC (by decide) (by simp [fs_ok]) (Nat.le_of_ble_eq_true rfl) (fun d => S_X9_here_0 ?_)
  show T_X9_here_0 g d _ [.ref 56] [] _
  simp only [T_X9_here_0, fi_const, fi_iload, fi_aload, fi_istore, fi_astore, fi_iinc, fi_bin, fi_div, fi_un, fi_dup, fi_dup2, fi_pop, fi_if, fi_cmp, fi_getf, fi_putf, fi_putr, fi_ald, fi_ast, fi_alen, fi_iret, fi_zret, fi_vret, fi_cut, fi_no, fi_s0, fi_s1, fi_s2, fi_s3, fi_s4, fi_v0, fi_v1, fi_v2, fi_v3, fi_v4, fi_v5, fi_n0, fi_n1, fi_n2, fi_mm, fi_stat, fi_alds, fi_tsw, List.getElem?_cons_zero, List.getElem?_cons_succ, List.set_cons_zero, List.set_cons_succ, List.length_cons, List.length_nil, Option.toList_some, Option.toList_none, List.cons_append, List.nil_append, Value.category, true_and, k_0, k_1, k_2, k_3, k_4, false_implies, true_implies, reduceCtorEq]
  simp only [fi_const, fi_iload, fi_aload, fi_istore, fi_astore, fi_iinc, fi_bin, fi_div, fi_un, fi_dup, fi_dup2, fi_pop, fi_if, fi_cmp, fi_getf, fi_putf, fi_putr, fi_ald, fi_ast, fi_alen, fi_iret, fi_zret, fi_vret, fi_cut, fi_no, fi_s0, fi_s1, fi_s2, fi_s3, fi_s4, fi_v0, fi_v1, fi_v2, fi_v3, fi_v4, fi_v5, fi_n0, fi_n1, fi_n2, fi_mm, fi_stat, fi_alds, fi_tsw, List.getElem?_cons_zero, List.getElem?_cons_succ, List.set_cons_zero, List.set_cons_succ, List.length_cons, List.length_nil, Option.toList_some, Option.toList_none, List.cons_append, List.nil_append, Value.category, true_and, k_0, k_1, k_2, k_3, k_4, false_implies, true_implies, reduceCtorEq, hM.1, h, h10]
  unfold hvF
  refine pk_le L j (fun w => ?_) (fun w => ?_)
  · rw [if_neg (by omega)]; exact ⟨rfl, trivial⟩
  · have i9 : vp_in (nI j) 900 := vp_in_nI (by omega) (by decide)
    simp only [hM.2.1, fi_const, fi_iload, fi_aload, fi_istore, fi_astore, fi_iinc, fi_bin, fi_div, fi_un, fi_dup, fi_dup2, fi_pop, fi_if, fi_cmp, fi_getf, fi_putf, fi_putr, fi_ald, fi_ast, fi_alen, fi_iret, fi_zret, fi_vret, fi_cut, fi_no, fi_s0, fi_s1, fi_s2, fi_s3, fi_s4, fi_v0, fi_v1, fi_v2, fi_v3, fi_v4, fi_v5, fi_n0, fi_n1, fi_n2, fi_mm, fi_stat, fi_alds, fi_tsw, List.getElem?_cons_zero, List.getElem?_cons_succ, List.set_cons_zero, List.set_cons_succ, List.length_cons, List.length_nil, Option.toList_some, Option.toList_none, List.cons_append, List.nil_append, Value.category, true_and, k_0, k_1, k_2, k_3, k_4, false_implies, true_implies, reduceCtorEq, i9, nI_clamp (show j < 2 ^ 31 by omega), show 56 + 1 = 57 from rfl, (hb j w).2]
    rw [if_pos w]
    exact ⟨rfl, trivial⟩
/-- the end of a word of the list -/
theorem l_wh97 (hM : shM S 56) {n : Nat} (hn : n < 12) {z : Value} {Q : Option Value → fs_M → Prop} (K : ∀ z, fs_R g m_X9_wordHere d (0, 0) 4 [.ref 56, .int (nI (n + 1)), .int (nI (oW (n + 1))), z] [] ((S, fr), σ, τ) Q) : ∀ m j, j + m = (wl n).length → fs_R g m_X9_wordHere d (0, 0) 97 [.ref 56, .int (nI n), .int (nI (oW n + j)), z] [] ((S, fr), σ, τ) Q
  | 0, j, hj => by
    obtain ⟨o1, o2, o3, o4⟩ := oW_ok n hn
    refine S_X9_wordHere_97 ?_
    simp only [T_X9_wordHere_97, fi_const, fi_iload, fi_aload, fi_istore, fi_astore, fi_iinc, fi_bin, fi_div, fi_un, fi_dup, fi_dup2, fi_pop, fi_if, fi_cmp, fi_getf, fi_putf, fi_putr, fi_ald, fi_ast, fi_alen, fi_iret, fi_zret, fi_vret, fi_cut, fi_no, fi_s0, fi_s1, fi_s2, fi_s3, fi_s4, fi_v0, fi_v1, fi_v2, fi_v3, fi_v4, fi_v5, fi_n0, fi_n1, fi_n2, fi_mm, fi_stat, fi_alds, fi_tsw, List.getElem?_cons_zero, List.getElem?_cons_succ, List.set_cons_zero, List.set_cons_succ, List.length_cons, List.length_nil, Option.toList_some, Option.toList_none, List.cons_append, List.nil_append, Value.category, true_and, k_0, k_1, k_2, k_3, k_4, false_implies, true_implies, reduceCtorEq, fi_sch, nI_1]
    refine ⟨by decide, _, sr_23, rfl, oW n + j, show oW n + j < 66 by omega, rfl, ?_⟩
    have e : wA.getD (oW n + j) 0 = 32 := by rw [show j = (wl n).length by omega]; exact o3
    refine ⟨fun _ => ?_, fun w => absurd e w⟩
    rw [show oW n + j + 1 = oW (n + 1) by omega]
    exact K z
  | m + 1, j, hj => by
    obtain ⟨o1, o2, o3, o4⟩ := oW_ok n hn
    obtain ⟨o5, o6⟩ := o4 j (by omega)
    refine S_X9_wordHere_97 ?_
    simp only [T_X9_wordHere_97, fi_const, fi_iload, fi_aload, fi_istore, fi_astore, fi_iinc, fi_bin, fi_div, fi_un, fi_dup, fi_dup2, fi_pop, fi_if, fi_cmp, fi_getf, fi_putf, fi_putr, fi_ald, fi_ast, fi_alen, fi_iret, fi_zret, fi_vret, fi_cut, fi_no, fi_s0, fi_s1, fi_s2, fi_s3, fi_s4, fi_v0, fi_v1, fi_v2, fi_v3, fi_v4, fi_v5, fi_n0, fi_n1, fi_n2, fi_mm, fi_stat, fi_alds, fi_tsw, List.getElem?_cons_zero, List.getElem?_cons_succ, List.set_cons_zero, List.set_cons_succ, List.length_cons, List.length_nil, Option.toList_some, Option.toList_none, List.cons_append, List.nil_append, Value.category, true_and, k_0, k_1, k_2, k_3, k_4, false_implies, true_implies, reduceCtorEq, fi_sch, nI_1]
    refine ⟨by decide, _, sr_23, rfl, oW n + j, show oW n + j < 66 by omega, rfl, ?_⟩
    refine ⟨fun w => absurd (o5.symm.trans w) o6, fun _ => ?_⟩
    exact l_wh97 hM hn K m (j + 1) (by omega)
theorem l_wh15 (hM : shM S 56) (hT : TXM σ b L) {st en : Nat} (h12 : σ 56 12 = nI st) (h11 : σ 56 11 = nI en) (hse : st ≤ en) (heL : en ≤ L) {n : Nat} (hn : n < 12) {Q : Option Value → fs_M → Prop} (hQ : eqW b st en (wl n) = true → Q (some (.int (nI n))) ((S, fr), σ, τ)) (K : eqW b st en (wl n) = false → ∀ z, fs_R g m_X9_wordHere d (0, 0) 4 [.ref 56, .int (nI (n + 1)), .int (nI (oW (n + 1))), z] [] ((S, fr), σ, τ) Q) : ∀ m i, i + m = (wl n).length → st + i ≤ en → (∀ j, j < i → nI (b (st + j)) = (wl n).getD j 0) → fs_R g m_X9_wordHere d (0, 0) 15 [.ref 56, .int (nI n), .int (nI (oW n)), .int (nI i)] [] ((S, fr), σ, τ) Q := by
  obtain ⟨h10, hL, hb⟩ := id hT
  obtain ⟨o1, o2, o3, o4⟩ := oW_ok n hn
  -- the end of the inner loop
  have fin : ∀ i, i ≤ (wl n).length → st + i ≤ en → ((i = (wl n).length ∧ ∀ j, j < i → nI (b (st + j)) = (wl n).getD j 0) ∨ eqW b st en (wl n) = false ∧ i < (wl n).length) → fs_R g m_X9_wordHere d (0, 0) 69 [.ref 56, .int (nI n), .int (nI (oW n)), .int (nI i)] [] ((S, fr), σ, τ) Q := by
    intro i hi hie h
    have next : eqW b st en (wl n) = false → fs_R g m_X9_wordHere d (0, 0) 97 [.ref 56, .int (nI n), .int (nI (oW n)), .int (nI i)] [] ((S, fr), σ, τ) Q := fun z => by
      have := l_wh97 (d := d) (fr := fr) (σ := σ) (τ := τ) (z := .int (nI i)) hM hn (K z) (wl n).length 0 (by omega)
      rw [Nat.add_zero] at this
      exact this
    refine S_X9_wordHere_69 ?_
    simp only [T_X9_wordHere_69, fi_const, fi_iload, fi_aload, fi_istore, fi_astore, fi_iinc, fi_bin, fi_div, fi_un, fi_dup, fi_dup2, fi_pop, fi_if, fi_cmp, fi_getf, fi_putf, fi_putr, fi_ald, fi_ast, fi_alen, fi_iret, fi_zret, fi_vret, fi_cut, fi_no, fi_s0, fi_s1, fi_s2, fi_s3, fi_s4, fi_v0, fi_v1, fi_v2, fi_v3, fi_v4, fi_v5, fi_n0, fi_n1, fi_n2, fi_mm, fi_stat, fi_alds, fi_tsw, List.getElem?_cons_zero, List.getElem?_cons_succ, List.set_cons_zero, List.set_cons_succ, List.length_cons, List.length_nil, Option.toList_some, Option.toList_none, List.cons_append, List.nil_append, Value.category, true_and, k_0, k_1, k_2, k_3, k_4, false_implies, true_implies, reduceCtorEq, fi_sch, nI_add, hM.1, h12, h11]
    refine ⟨by decide, _, sr_23, rfl, oW n + i, show oW n + i < 66 by omega, rfl, ?_⟩
    rcases h with ⟨h1, h2⟩ | ⟨h1, h2⟩
    · have e : wA.getD (oW n + i) 0 = 32 := by rw [h1]; exact o3
      refine ⟨fun _ => pk_eq (st + i) en (fun w => ?_) (fun w => ?_), fun w => absurd e w⟩
      · exact hQ (decide_eq_true ⟨by omega, fun j hj => h2 j (by omega)⟩)
      · exact next (decide_eq_false (fun z => w (by omega)))
    · obtain ⟨o5, o6⟩ := o4 i h2
      exact ⟨fun w => absurd (o5.symm.trans w) o6, fun _ => next h1⟩
  intro m
  induction m with
  | zero =>
    intro i hi hie h
    refine S_X9_wordHere_15 ?_
    simp only [T_X9_wordHere_15, fi_const, fi_iload, fi_aload, fi_istore, fi_astore, fi_iinc, fi_bin, fi_div, fi_un, fi_dup, fi_dup2, fi_pop, fi_if, fi_cmp, fi_getf, fi_putf, fi_putr, fi_ald, fi_ast, fi_alen, fi_iret, fi_zret, fi_vret, fi_cut, fi_no, fi_s0, fi_s1, fi_s2, fi_s3, fi_s4, fi_v0, fi_v1, fi_v2, fi_v3, fi_v4, fi_v5, fi_n0, fi_n1, fi_n2, fi_mm, fi_stat, fi_alds, fi_tsw, List.getElem?_cons_zero, List.getElem?_cons_succ, List.set_cons_zero, List.set_cons_succ, List.length_cons, List.length_nil, Option.toList_some, Option.toList_none, List.cons_append, List.nil_append, Value.category, true_and, k_0, k_1, k_2, k_3, k_4, false_implies, true_implies, reduceCtorEq, fi_sch, nI_add]
    refine ⟨by decide, _, sr_23, rfl, oW n + i, show oW n + i < 66 by omega, rfl, ?_⟩
    have e : wA.getD (oW n + i) 0 = 32 := by rw [show i = (wl n).length by omega]; exact o3
    exact ⟨fun _ => fin i (by omega) hie (Or.inl ⟨by omega, h⟩), fun w => absurd e w⟩
  | succ m ih =>
    intro i hi hie h
    obtain ⟨o5, o6⟩ := o4 i (by omega)
    refine S_X9_wordHere_15 ?_
    simp only [T_X9_wordHere_15, fi_const, fi_iload, fi_aload, fi_istore, fi_astore, fi_iinc, fi_bin, fi_div, fi_un, fi_dup, fi_dup2, fi_pop, fi_if, fi_cmp, fi_getf, fi_putf, fi_putr, fi_ald, fi_ast, fi_alen, fi_iret, fi_zret, fi_vret, fi_cut, fi_no, fi_s0, fi_s1, fi_s2, fi_s3, fi_s4, fi_v0, fi_v1, fi_v2, fi_v3, fi_v4, fi_v5, fi_n0, fi_n1, fi_n2, fi_mm, fi_stat, fi_alds, fi_tsw, List.getElem?_cons_zero, List.getElem?_cons_succ, List.set_cons_zero, List.set_cons_succ, List.length_cons, List.length_nil, Option.toList_some, Option.toList_none, List.cons_append, List.nil_append, Value.category, true_and, k_0, k_1, k_2, k_3, k_4, false_implies, true_implies, reduceCtorEq, fi_sch, nI_add, hM.1, h12, h11, nI_1]
    refine ⟨by decide, _, sr_23, rfl, oW n + i, show oW n + i < 66 by omega, rfl, ?_⟩
    refine ⟨fun w => absurd (o5.symm.trans w) o6, fun _ => pk_le en (st + i) (fun w => ?_) (fun w => ?_)⟩
    · exact fin i (by omega) hie (Or.inr ⟨decide_eq_false (fun z => by omega), by omega⟩)
    · have i9 : vp_in (nI (st + i)) 900 := vp_in_nI (by omega) (by decide)
      simp only [hM.2.1, fi_const, fi_iload, fi_aload, fi_istore, fi_astore, fi_iinc, fi_bin, fi_div, fi_un, fi_dup, fi_dup2, fi_pop, fi_if, fi_cmp, fi_getf, fi_putf, fi_putr, fi_ald, fi_ast, fi_alen, fi_iret, fi_zret, fi_vret, fi_cut, fi_no, fi_s0, fi_s1, fi_s2, fi_s3, fi_s4, fi_v0, fi_v1, fi_v2, fi_v3, fi_v4, fi_v5, fi_n0, fi_n1, fi_n2, fi_mm, fi_stat, fi_alds, fi_tsw, List.getElem?_cons_zero, List.getElem?_cons_succ, List.set_cons_zero, List.set_cons_succ, List.length_cons, List.length_nil, Option.toList_some, Option.toList_none, List.cons_append, List.nil_append, Value.category, true_and, k_0, k_1, k_2, k_3, k_4, false_implies, true_implies, reduceCtorEq, i9, nI_clamp (show st + i < 2 ^ 31 by omega), show 56 + 1 = 57 from rfl, (hb (st + i) (by omega)).2]
      refine ⟨Nat.le_of_ble_eq_true rfl, _, sr_23, rfl, oW n + i, show oW n + i < 66 by omega, rfl, ?_⟩
      refine ⟨fun v => ih (i + 1) (by omega) (by omega) (fun j hj => ?_), fun v => fin i (by omega) hie (Or.inr ⟨decide_eq_false (fun z => v ((z.2 i (by omega)).trans o5.symm)), by omega⟩)⟩
      by_cases y : j = i
      · rw [y]; exact v.trans o5
      · exact h j (by omega)
theorem l_wh4 (hM : shM S 56) (hT : TXM σ b L) {st en : Nat} (h12 : σ 56 12 = nI st) (h11 : σ 56 11 = nI en) (hse : st ≤ en) (heL : en ≤ L) : ∀ m n z, n + m = 12 → fs_R g m_X9_wordHere d (0, 0) 4 [.ref 56, .int (nI n), .int (nI (oW n)), z] [] ((S, fr), σ, τ) (fun r M' => r = some (.int (wfG b st en m n)) ∧ ((S, fr), σ, τ) = M')
  | 0, n, z, hn => by
    have e : oW n = 66 := by rw [show n = 12 by omega]; rfl
    rw [e]
    refine S_X9_wordHere_4 ?_
    simp only [T_X9_wordHere_4, fi_const, fi_iload, fi_aload, fi_istore, fi_astore, fi_iinc, fi_bin, fi_div, fi_un, fi_dup, fi_dup2, fi_pop, fi_if, fi_cmp, fi_getf, fi_putf, fi_putr, fi_ald, fi_ast, fi_alen, fi_iret, fi_zret, fi_vret, fi_cut, fi_no, fi_s0, fi_s1, fi_s2, fi_s3, fi_s4, fi_v0, fi_v1, fi_v2, fi_v3, fi_v4, fi_v5, fi_n0, fi_n1, fi_n2, fi_mm, fi_stat, fi_alds, fi_tsw, List.getElem?_cons_zero, List.getElem?_cons_succ, List.set_cons_zero, List.set_cons_succ, List.length_cons, List.length_nil, Option.toList_some, Option.toList_none, List.cons_append, List.nil_append, Value.category, true_and, k_0, k_1, k_2, k_3, k_4, false_implies, true_implies, reduceCtorEq, fi_slen]
    exact ⟨by decide, _, sr_23, rfl, fun _ => ⟨rfl, trivial⟩, fun w => absurd (show nI wA.length ≤ nI 66 by decide) w⟩
  | m + 1, n, z, hn => by
    obtain ⟨o1, o2, o3, o4⟩ := oW_ok n (by omega)
    refine S_X9_wordHere_4 ?_
    simp only [T_X9_wordHere_4, fi_const, fi_iload, fi_aload, fi_istore, fi_astore, fi_iinc, fi_bin, fi_div, fi_un, fi_dup, fi_dup2, fi_pop, fi_if, fi_cmp, fi_getf, fi_putf, fi_putr, fi_ald, fi_ast, fi_alen, fi_iret, fi_zret, fi_vret, fi_cut, fi_no, fi_s0, fi_s1, fi_s2, fi_s3, fi_s4, fi_v0, fi_v1, fi_v2, fi_v3, fi_v4, fi_v5, fi_n0, fi_n1, fi_n2, fi_mm, fi_stat, fi_alds, fi_tsw, List.getElem?_cons_zero, List.getElem?_cons_succ, List.set_cons_zero, List.set_cons_succ, List.length_cons, List.length_nil, Option.toList_some, Option.toList_none, List.cons_append, List.nil_append, Value.category, true_and, k_0, k_1, k_2, k_3, k_4, false_implies, true_implies, reduceCtorEq, fi_slen]
    refine ⟨by decide, _, sr_23, rfl, pk_le 66 (oW n) (fun w => by omega) (fun _ => ?_)⟩
    refine l_wh15 hM hT h12 h11 hse heL (show n < 12 by omega) (fun q => ?_) (fun q z' => ?_) (wl n).length 0 (by omega) (by omega) (fun j hj => by omega)
    · simp only [wfG]; rw [if_pos q]; exact ⟨rfl, trivial⟩
    · simp only [wfG]; rw [if_neg (by rw [q]; decide)]
      exact l_wh4 hM hT h12 h11 hse heL m (n + 1) z' (by omega)
theorem c_wordHere (hM : shM S 56) (hT : TXM σ b L) {st en : Nat} (h12 : σ 56 12 = nI st) (h11 : σ 56 11 = nI en) (hse : st ≤ en) (heL : en ≤ L) : fs_Ct g m_X9_wordHere [.ref 56] ((S, fr), σ, τ) (fun r M' => r = some (.int (wfG b st en 12 0)) ∧ ((S, fr), σ, τ) = M') := by
  refine fs_enterC (by decide) (by simp [fs_ok]) (Nat.le_of_ble_eq_true rfl) (fun d => S_X9_wordHere_0 ?_)
  show T_X9_wordHere_0 g d _ [.ref 56, .null, .null, .null] [] _
  simp only [T_X9_wordHere_0, fi_const, fi_iload, fi_aload, fi_istore, fi_astore, fi_iinc, fi_bin, fi_div, fi_un, fi_dup, fi_dup2, fi_pop, fi_if, fi_cmp, fi_getf, fi_putf, fi_putr, fi_ald, fi_ast, fi_alen, fi_iret, fi_zret, fi_vret, fi_cut, fi_no, fi_s0, fi_s1, fi_s2, fi_s3, fi_s4, fi_v0, fi_v1, fi_v2, fi_v3, fi_v4, fi_v5, fi_n0, fi_n1, fi_n2, fi_mm, fi_stat, fi_alds, fi_tsw, List.getElem?_cons_zero, List.getElem?_cons_succ, List.set_cons_zero, List.set_cons_succ, List.length_cons, List.length_nil, Option.toList_some, Option.toList_none, List.cons_append, List.nil_append, Value.category, true_and, k_0, k_1, k_2, k_3, k_4, false_implies, true_implies, reduceCtorEq]
  exact l_wh4 hM hT h12 h11 hse heL 12 0 .null rfl
theorem l_next64 (hM : shM S 56) {k : Nat} (hk : k ≤ L) (h1 : tK b L k = 1) {z : Value} : ∀ n j σ, j + n = L → TXM σ b L → σ 56 11 = nI j → σ 56 12 = nI (tS b L k) → scn isLt b n j = tE b L k → fs_R g m_X9_next d (0, 0) 64 [.ref 56, z] [] ((S, fr), σ, τ) (fun r M' => r = none ∧ ∃ σ', M' = ((S, fr), σ', τ) ∧ tkM σ σ' ∧ TM σ' b L k) := by
  intro n
  induction n with
  | zero =>
    intro j σ hj hT h11 h12 hs
    obtain ⟨h10, hL, hb⟩ := id hT
    have hE := tE_le (b := b) hk
    refine S_X9_next_64 ?_
    simp only [T_X9_next_64, fi_const, fi_iload, fi_aload, fi_istore, fi_astore, fi_iinc, fi_bin, fi_div, fi_un, fi_dup, fi_dup2, fi_pop, fi_if, fi_cmp, fi_getf, fi_putf, fi_putr, fi_ald, fi_ast, fi_alen, fi_iret, fi_zret, fi_vret, fi_cut, fi_no, fi_s0, fi_s1, fi_s2, fi_s3, fi_s4, fi_v0, fi_v1, fi_v2, fi_v3, fi_v4, fi_v5, fi_n0, fi_n1, fi_n2, fi_mm, fi_stat, fi_alds, fi_tsw, List.getElem?_cons_zero, List.getElem?_cons_succ, List.set_cons_zero, List.set_cons_succ, List.length_cons, List.length_nil, Option.toList_some, Option.toList_none, List.cons_append, List.nil_append, Value.category, true_and, k_0, k_1, k_2, k_3, k_4, false_implies, true_implies, reduceCtorEq, hM.1]
    refine ⟨by decide, ⟨_, rfl⟩, (c_here hM hT (by omega) h11).mono ?_⟩
    rintro r M' ⟨rfl, rfl⟩
    simp only [fi_const, fi_iload, fi_aload, fi_istore, fi_astore, fi_iinc, fi_bin, fi_div, fi_un, fi_dup, fi_dup2, fi_pop, fi_if, fi_cmp, fi_getf, fi_putf, fi_putr, fi_ald, fi_ast, fi_alen, fi_iret, fi_zret, fi_vret, fi_cut, fi_no, fi_s0, fi_s1, fi_s2, fi_s3, fi_s4, fi_v0, fi_v1, fi_v2, fi_v3, fi_v4, fi_v5, fi_n0, fi_n1, fi_n2, fi_mm, fi_stat, fi_alds, fi_tsw, List.getElem?_cons_zero, List.getElem?_cons_succ, List.set_cons_zero, List.set_cons_succ, List.length_cons, List.length_nil, Option.toList_some, Option.toList_none, List.cons_append, List.nil_append, Value.category, true_and, k_0, k_1, k_2, k_3, k_4, false_implies, true_implies, reduceCtorEq]
    refine ⟨by decide, (c_isSmall _).mono ?_⟩
    rintro r M' ⟨rfl, rfl⟩
    rw [smF_hv (fun z => (hb j z).1), decide_eq_false (by omega), Bool.false_and]
    simp only [fi_const, fi_iload, fi_aload, fi_istore, fi_astore, fi_iinc, fi_bin, fi_div, fi_un, fi_dup, fi_dup2, fi_pop, fi_if, fi_cmp, fi_getf, fi_putf, fi_putr, fi_ald, fi_ast, fi_alen, fi_iret, fi_zret, fi_vret, fi_cut, fi_no, fi_s0, fi_s1, fi_s2, fi_s3, fi_s4, fi_v0, fi_v1, fi_v2, fi_v3, fi_v4, fi_v5, fi_n0, fi_n1, fi_n2, fi_mm, fi_stat, fi_alds, fi_tsw, List.getElem?_cons_zero, List.getElem?_cons_succ, List.set_cons_zero, List.set_cons_succ, List.length_cons, List.length_nil, Option.toList_some, Option.toList_none, List.cons_append, List.nil_append, Value.category, true_and, k_0, k_1, k_2, k_3, k_4, false_implies, true_implies, reduceCtorEq, bI_eq0, hM.1]
    refine ⟨?_, fun z => absurd trivial z⟩
    have e11 : fs_u σ 56 13 0 56 11 = nI (tE b L k) := by simp only [fs_u]; rw [if_neg (by decide), h11, ← hs]; rfl
    refine ⟨by decide, ⟨_, rfl⟩, (c_wordHere hM (hT.keep (tkM.u (by decide) (by decide))) (st := tS b L k) (en := tE b L k) (by simp only [fs_u]; rw [if_neg (by decide)]; exact h12) e11 hE.1 hE.2.1).mono ?_⟩
    rintro r M' ⟨rfl, rfl⟩
    simp only [fi_const, fi_iload, fi_aload, fi_istore, fi_astore, fi_iinc, fi_bin, fi_div, fi_un, fi_dup, fi_dup2, fi_pop, fi_if, fi_cmp, fi_getf, fi_putf, fi_putr, fi_ald, fi_ast, fi_alen, fi_iret, fi_zret, fi_vret, fi_cut, fi_no, fi_s0, fi_s1, fi_s2, fi_s3, fi_s4, fi_v0, fi_v1, fi_v2, fi_v3, fi_v4, fi_v5, fi_n0, fi_n1, fi_n2, fi_mm, fi_stat, fi_alds, fi_tsw, List.getElem?_cons_zero, List.getElem?_cons_succ, List.set_cons_zero, List.set_cons_succ, List.length_cons, List.length_nil, Option.toList_some, Option.toList_none, List.cons_append, List.nil_append, Value.category, true_and, k_0, k_1, k_2, k_3, k_4, false_implies, true_implies, reduceCtorEq, hM.1]
    refine ⟨_, rfl, (tkM.u (by decide) (by decide)).tr (tkM.u (by decide) (by decide)), ?_, ?_, ?_, fun w => by omega, fun _ => ?_⟩
    · simp only [fs_u]; rw [if_neg (by decide), if_pos ⟨trivial, trivial⟩, h1]; rfl
    · simp only [fs_u]; rw [if_neg (by decide), if_neg (by decide)]; exact h12
    · rw [← e11]; simp only [fs_u]; rw [if_neg (by decide)]
    · rw [u_eq]; unfold tW; rw [if_pos h1]
  | succ n ih =>
    intro j σ hj hT h11 h12 hs
    obtain ⟨h10, hL, hb⟩ := id hT
    have hE := tE_le (b := b) hk
    refine S_X9_next_64 ?_
    simp only [T_X9_next_64, fi_const, fi_iload, fi_aload, fi_istore, fi_astore, fi_iinc, fi_bin, fi_div, fi_un, fi_dup, fi_dup2, fi_pop, fi_if, fi_cmp, fi_getf, fi_putf, fi_putr, fi_ald, fi_ast, fi_alen, fi_iret, fi_zret, fi_vret, fi_cut, fi_no, fi_s0, fi_s1, fi_s2, fi_s3, fi_s4, fi_v0, fi_v1, fi_v2, fi_v3, fi_v4, fi_v5, fi_n0, fi_n1, fi_n2, fi_mm, fi_stat, fi_alds, fi_tsw, List.getElem?_cons_zero, List.getElem?_cons_succ, List.set_cons_zero, List.set_cons_succ, List.length_cons, List.length_nil, Option.toList_some, Option.toList_none, List.cons_append, List.nil_append, Value.category, true_and, k_0, k_1, k_2, k_3, k_4, false_implies, true_implies, reduceCtorEq, hM.1]
    refine ⟨by decide, ⟨_, rfl⟩, (c_here hM hT (by omega) h11).mono ?_⟩
    rintro r M' ⟨rfl, rfl⟩
    simp only [fi_const, fi_iload, fi_aload, fi_istore, fi_astore, fi_iinc, fi_bin, fi_div, fi_un, fi_dup, fi_dup2, fi_pop, fi_if, fi_cmp, fi_getf, fi_putf, fi_putr, fi_ald, fi_ast, fi_alen, fi_iret, fi_zret, fi_vret, fi_cut, fi_no, fi_s0, fi_s1, fi_s2, fi_s3, fi_s4, fi_v0, fi_v1, fi_v2, fi_v3, fi_v4, fi_v5, fi_n0, fi_n1, fi_n2, fi_mm, fi_stat, fi_alds, fi_tsw, List.getElem?_cons_zero, List.getElem?_cons_succ, List.set_cons_zero, List.set_cons_succ, List.length_cons, List.length_nil, Option.toList_some, Option.toList_none, List.cons_append, List.nil_append, Value.category, true_and, k_0, k_1, k_2, k_3, k_4, false_implies, true_implies, reduceCtorEq]
    refine ⟨by decide, (c_isSmall _).mono ?_⟩
    rintro r M' ⟨rfl, rfl⟩
    rw [smF_hv (fun z => (hb j z).1), decide_eq_true (show j < L by omega), Bool.true_and]
    simp only [fi_const, fi_iload, fi_aload, fi_istore, fi_astore, fi_iinc, fi_bin, fi_div, fi_un, fi_dup, fi_dup2, fi_pop, fi_if, fi_cmp, fi_getf, fi_putf, fi_putr, fi_ald, fi_ast, fi_alen, fi_iret, fi_zret, fi_vret, fi_cut, fi_no, fi_s0, fi_s1, fi_s2, fi_s3, fi_s4, fi_v0, fi_v1, fi_v2, fi_v3, fi_v4, fi_v5, fi_n0, fi_n1, fi_n2, fi_mm, fi_stat, fi_alds, fi_tsw, List.getElem?_cons_zero, List.getElem?_cons_succ, List.set_cons_zero, List.set_cons_succ, List.length_cons, List.length_nil, Option.toList_some, Option.toList_none, List.cons_append, List.nil_append, Value.category, true_and, k_0, k_1, k_2, k_3, k_4, false_implies, true_implies, reduceCtorEq, bI_eq0, hM.1, h11, nI_1]
    refine ⟨fun q => ?_, fun q => ?_⟩
    · simp only [scn] at hs
      rw [if_neg (by rw [q]; decide)] at hs
      have e11 : fs_u σ 56 13 0 56 11 = nI (tE b L k) := by simp only [fs_u]; rw [if_neg (by decide), h11, ← hs]
      refine ⟨by decide, ⟨_, rfl⟩, (c_wordHere hM (hT.keep (tkM.u (by decide) (by decide))) (st := tS b L k) (en := tE b L k) (by simp only [fs_u]; rw [if_neg (by decide)]; exact h12) e11 hE.1 hE.2.1).mono ?_⟩
      rintro r M' ⟨rfl, rfl⟩
      simp only [fi_const, fi_iload, fi_aload, fi_istore, fi_astore, fi_iinc, fi_bin, fi_div, fi_un, fi_dup, fi_dup2, fi_pop, fi_if, fi_cmp, fi_getf, fi_putf, fi_putr, fi_ald, fi_ast, fi_alen, fi_iret, fi_zret, fi_vret, fi_cut, fi_no, fi_s0, fi_s1, fi_s2, fi_s3, fi_s4, fi_v0, fi_v1, fi_v2, fi_v3, fi_v4, fi_v5, fi_n0, fi_n1, fi_n2, fi_mm, fi_stat, fi_alds, fi_tsw, List.getElem?_cons_zero, List.getElem?_cons_succ, List.set_cons_zero, List.set_cons_succ, List.length_cons, List.length_nil, Option.toList_some, Option.toList_none, List.cons_append, List.nil_append, Value.category, true_and, k_0, k_1, k_2, k_3, k_4, false_implies, true_implies, reduceCtorEq, hM.1]
      refine ⟨_, rfl, (tkM.u (by decide) (by decide)).tr (tkM.u (by decide) (by decide)), ?_, ?_, ?_, fun w => by omega, fun _ => ?_⟩
      · simp only [fs_u]; rw [if_neg (by decide), if_pos ⟨trivial, trivial⟩, h1]; rfl
      · simp only [fs_u]; rw [if_neg (by decide), if_neg (by decide)]; exact h12
      · rw [← e11]; simp only [fs_u]; rw [if_neg (by decide)]
      · rw [u_eq]; unfold tW; rw [if_pos h1]
    · have q' : isLt (b j) = true := by cases w : isLt (b j); exact absurd w q; rfl
      simp only [scn] at hs
      rw [if_pos q'] at hs
      refine fs_R_mono (ih (j + 1) (fs_u σ 56 11 (nI (j + 1))) (by omega) (hT.keep (tkM.u (by decide) (by decide))) (u_eq ..) (by simp only [fs_u]; rw [if_neg (by decide)]; exact h12) hs) ?_
      rintro r M' ⟨rfl, σ', rfl, f1, f2⟩
      exact ⟨rfl, σ', rfl, (tkM.u (by decide) (by decide)).tr f1, f2⟩
theorem l_next120 (hM : shM S 56) {k : Nat} (hk : k ≤ L) (h2 : tK b L k = 2) {z : Value} : ∀ n j v σ, j + n = L → v ≤ 1000009 → TXM σ b L → σ 56 11 = nI j → σ 56 12 = nI (tS b L k) → σ 56 13 = 1 → σ 56 14 = nI v → scn isDg b n j = tE b L k → ivG b n j v = tV b L k → fs_R g m_X9_next d (0, 0) 120 [.ref 56, z] [] ((S, fr), σ, τ) (fun r M' => r = none ∧ ∃ σ', M' = ((S, fr), σ', τ) ∧ tkM σ σ' ∧ TM σ' b L k) := by
  intro n
  induction n with
  | zero =>
    intro j v σ hj hv hT h11 h12 h13 h14 hs hi
    obtain ⟨h10, hL, hb⟩ := id hT
    refine S_X9_next_120 ?_
    simp only [T_X9_next_120, fi_const, fi_iload, fi_aload, fi_istore, fi_astore, fi_iinc, fi_bin, fi_div, fi_un, fi_dup, fi_dup2, fi_pop, fi_if, fi_cmp, fi_getf, fi_putf, fi_putr, fi_ald, fi_ast, fi_alen, fi_iret, fi_zret, fi_vret, fi_cut, fi_no, fi_s0, fi_s1, fi_s2, fi_s3, fi_s4, fi_v0, fi_v1, fi_v2, fi_v3, fi_v4, fi_v5, fi_n0, fi_n1, fi_n2, fi_mm, fi_stat, fi_alds, fi_tsw, List.getElem?_cons_zero, List.getElem?_cons_succ, List.set_cons_zero, List.set_cons_succ, List.length_cons, List.length_nil, Option.toList_some, Option.toList_none, List.cons_append, List.nil_append, Value.category, true_and, k_0, k_1, k_2, k_3, k_4, false_implies, true_implies, reduceCtorEq, hM.1]
    refine ⟨by decide, ⟨_, rfl⟩, (c_here hM hT (by omega) h11).mono ?_⟩
    rintro r M' ⟨rfl, rfl⟩
    simp only [fi_const, fi_iload, fi_aload, fi_istore, fi_astore, fi_iinc, fi_bin, fi_div, fi_un, fi_dup, fi_dup2, fi_pop, fi_if, fi_cmp, fi_getf, fi_putf, fi_putr, fi_ald, fi_ast, fi_alen, fi_iret, fi_zret, fi_vret, fi_cut, fi_no, fi_s0, fi_s1, fi_s2, fi_s3, fi_s4, fi_v0, fi_v1, fi_v2, fi_v3, fi_v4, fi_v5, fi_n0, fi_n1, fi_n2, fi_mm, fi_stat, fi_alds, fi_tsw, List.getElem?_cons_zero, List.getElem?_cons_succ, List.set_cons_zero, List.set_cons_succ, List.length_cons, List.length_nil, Option.toList_some, Option.toList_none, List.cons_append, List.nil_append, Value.category, true_and, k_0, k_1, k_2, k_3, k_4, false_implies, true_implies, reduceCtorEq]
    refine ⟨by decide, (c_isDigitM _).mono ?_⟩
    rintro r M' ⟨rfl, rfl⟩
    rw [dgF_hv (fun z => (hb j z).1), decide_eq_false (by omega), Bool.false_and]
    simp only [fi_const, fi_iload, fi_aload, fi_istore, fi_astore, fi_iinc, fi_bin, fi_div, fi_un, fi_dup, fi_dup2, fi_pop, fi_if, fi_cmp, fi_getf, fi_putf, fi_putr, fi_ald, fi_ast, fi_alen, fi_iret, fi_zret, fi_vret, fi_cut, fi_no, fi_s0, fi_s1, fi_s2, fi_s3, fi_s4, fi_v0, fi_v1, fi_v2, fi_v3, fi_v4, fi_v5, fi_n0, fi_n1, fi_n2, fi_mm, fi_stat, fi_alds, fi_tsw, List.getElem?_cons_zero, List.getElem?_cons_succ, List.set_cons_zero, List.set_cons_succ, List.length_cons, List.length_nil, Option.toList_some, Option.toList_none, List.cons_append, List.nil_append, Value.category, true_and, k_0, k_1, k_2, k_3, k_4, false_implies, true_implies, reduceCtorEq, bI_eq0, hM.1]
    refine ⟨?_, fun z => absurd trivial z⟩
    exact ⟨σ, rfl, tkM.rf, by rw [h13, h2]; rfl, h12, by rw [h11, ← hs]; rfl, fun _ => by rw [h14, ← hi]; rfl, fun w => by omega⟩
  | succ n ih =>
    intro j v σ hj hv hT h11 h12 h13 h14 hs hi
    obtain ⟨h10, hL, hb⟩ := id hT
    obtain ⟨hb1, hb2⟩ := hb j (by omega)
    refine S_X9_next_120 ?_
    simp only [T_X9_next_120, fi_const, fi_iload, fi_aload, fi_istore, fi_astore, fi_iinc, fi_bin, fi_div, fi_un, fi_dup, fi_dup2, fi_pop, fi_if, fi_cmp, fi_getf, fi_putf, fi_putr, fi_ald, fi_ast, fi_alen, fi_iret, fi_zret, fi_vret, fi_cut, fi_no, fi_s0, fi_s1, fi_s2, fi_s3, fi_s4, fi_v0, fi_v1, fi_v2, fi_v3, fi_v4, fi_v5, fi_n0, fi_n1, fi_n2, fi_mm, fi_stat, fi_alds, fi_tsw, List.getElem?_cons_zero, List.getElem?_cons_succ, List.set_cons_zero, List.set_cons_succ, List.length_cons, List.length_nil, Option.toList_some, Option.toList_none, List.cons_append, List.nil_append, Value.category, true_and, k_0, k_1, k_2, k_3, k_4, false_implies, true_implies, reduceCtorEq, hM.1]
    refine ⟨by decide, ⟨_, rfl⟩, (c_here hM hT (by omega) h11).mono ?_⟩
    rintro r M' ⟨rfl, rfl⟩
    simp only [fi_const, fi_iload, fi_aload, fi_istore, fi_astore, fi_iinc, fi_bin, fi_div, fi_un, fi_dup, fi_dup2, fi_pop, fi_if, fi_cmp, fi_getf, fi_putf, fi_putr, fi_ald, fi_ast, fi_alen, fi_iret, fi_zret, fi_vret, fi_cut, fi_no, fi_s0, fi_s1, fi_s2, fi_s3, fi_s4, fi_v0, fi_v1, fi_v2, fi_v3, fi_v4, fi_v5, fi_n0, fi_n1, fi_n2, fi_mm, fi_stat, fi_alds, fi_tsw, List.getElem?_cons_zero, List.getElem?_cons_succ, List.set_cons_zero, List.set_cons_succ, List.length_cons, List.length_nil, Option.toList_some, Option.toList_none, List.cons_append, List.nil_append, Value.category, true_and, k_0, k_1, k_2, k_3, k_4, false_implies, true_implies, reduceCtorEq]
    refine ⟨by decide, (c_isDigitM _).mono ?_⟩
    rintro r M' ⟨rfl, rfl⟩
    rw [dgF_hv (fun z => (hb j z).1), decide_eq_true (show j < L by omega), Bool.true_and]
    simp only [fi_const, fi_iload, fi_aload, fi_istore, fi_astore, fi_iinc, fi_bin, fi_div, fi_un, fi_dup, fi_dup2, fi_pop, fi_if, fi_cmp, fi_getf, fi_putf, fi_putr, fi_ald, fi_ast, fi_alen, fi_iret, fi_zret, fi_vret, fi_cut, fi_no, fi_s0, fi_s1, fi_s2, fi_s3, fi_s4, fi_v0, fi_v1, fi_v2, fi_v3, fi_v4, fi_v5, fi_n0, fi_n1, fi_n2, fi_mm, fi_stat, fi_alds, fi_tsw, List.getElem?_cons_zero, List.getElem?_cons_succ, List.set_cons_zero, List.set_cons_succ, List.length_cons, List.length_nil, Option.toList_some, Option.toList_none, List.cons_append, List.nil_append, Value.category, true_and, k_0, k_1, k_2, k_3, k_4, false_implies, true_implies, reduceCtorEq, bI_eq0, hM.1, h14]
    simp only [scn] at hs
    simp only [ivG] at hi
    refine ⟨fun q => ?_, fun q => ?_⟩
    · rw [if_neg (by rw [q]; decide)] at hs hi
      exact ⟨σ, rfl, tkM.rf, by rw [h13, h2]; rfl, h12, by rw [h11, ← hs], fun _ => by rw [h14, ← hi], fun w => by omega⟩
    · have q' : isDg (b j) = true := by cases w : isDg (b j); exact absurd w q; rfl
      have hd : 48 ≤ b j ∧ b j ≤ 57 := by
        have z := q'
        unfold isDg at z
        simp only [Bool.and_eq_true, decide_eq_true_eq] at z
        exact z
      rw [if_pos q'] at hs hi
      have go : ∀ y, y ≤ 1000009 → y = (if 100000 < v then v else 10 * v + (b j - 48)) → fs_R g m_X9_next d (0, 0) 120 [.ref 56, z] [] ((S, fr), fs_u (fs_u σ 56 14 (nI y)) 56 11 (nI (j + 1)), τ) (fun r M' => r = none ∧ ∃ σ', M' = ((S, fr), σ', τ) ∧ tkM σ σ' ∧ TM σ' b L k) := by
        intro y hy ey
        refine fs_R_mono (ih (j + 1) y _ (by omega) hy (hT.keep ((tkM.u (c := 14) (x := nI y) (by decide) (by decide)).tr (tkM.u (by decide) (by decide)))) (u_eq ..) (by simp only [fs_u]; rw [if_neg (by decide), if_neg (by decide)]; exact h12) (by simp only [fs_u]; rw [if_neg (by decide), if_neg (by decide)]; exact h13) (by simp only [fs_u]; rw [if_neg (by decide), if_pos ⟨trivial, trivial⟩]) hs (by rw [ey]; exact hi)) ?_
        rintro r M' ⟨rfl, σ', rfl, f1, f2⟩
        exact ⟨rfl, σ', rfl, ((tkM.u (by decide) (by decide)).tr (tkM.u (by decide) (by decide))).tr f1, f2⟩
      have e11 : ∀ y, fs_u σ 56 14 y 56 11 = nI j := fun y => by simp only [fs_u]; rw [if_neg (by decide)]; exact h11
      refine ⟨fun w => ⟨Nat.le_of_ble_eq_true rfl, ⟨_, rfl⟩, (c_here hM hT (show j ≤ L by omega) h11).mono ?_⟩, fun w => ?_⟩
      · rintro r M' ⟨rfl, rfl⟩
        have ev : (10 : Int32) * nI v + hvF b L j - 48 = nI (10 * v + (b j - 48)) := by
          unfold hvF
          rw [if_pos (show j < L by omega), show (10 : Int32) = nI 10 from rfl, pk_mul, nI_add, show (48 : Int32) = nI 48 from rfl, pk_sub (by omega), show 10 * v + b j - 48 = 10 * v + (b j - 48) by omega]
        have hw : v ≤ 100000 := (nI_leI (b := 100000) (by omega) (by decide)).mp w
        simp only [fi_const, fi_iload, fi_aload, fi_istore, fi_astore, fi_iinc, fi_bin, fi_div, fi_un, fi_dup, fi_dup2, fi_pop, fi_if, fi_cmp, fi_getf, fi_putf, fi_putr, fi_ald, fi_ast, fi_alen, fi_iret, fi_zret, fi_vret, fi_cut, fi_no, fi_s0, fi_s1, fi_s2, fi_s3, fi_s4, fi_v0, fi_v1, fi_v2, fi_v3, fi_v4, fi_v5, fi_n0, fi_n1, fi_n2, fi_mm, fi_stat, fi_alds, fi_tsw, List.getElem?_cons_zero, List.getElem?_cons_succ, List.set_cons_zero, List.set_cons_succ, List.length_cons, List.length_nil, Option.toList_some, Option.toList_none, List.cons_append, List.nil_append, Value.category, true_and, k_0, k_1, k_2, k_3, k_4, false_implies, true_implies, reduceCtorEq, ev, hM.1, e11, nI_1]
        exact go _ (by omega) (by rw [if_neg (by omega)])
      · have hw : ¬ v ≤ 100000 := fun z => w ((nI_leI (b := 100000) (by omega) (by decide)).mpr z)
        rw [e11, nI_1]
        exact go v hv (by rw [if_pos (by omega)])
theorem l_next0 (hM : shM S 56) {k : Nat} (hk : k ≤ L) {z : Value} : ∀ n j σ, j + n = L → TXM σ b L → σ 56 11 = nI j → scn isSp b n j = tS b L k → fs_R g m_X9_next d (0, 0) 0 [.ref 56, z] [] ((S, fr), σ, τ) (fun r M' => r = none ∧ ∃ σ', M' = ((S, fr), σ', τ) ∧ tkM σ σ' ∧ TM σ' b L k) := by
  intro n
  induction n with
  | zero =>
    intro j σ hj hT h11 hs
    obtain ⟨h10, hL, hb⟩ := id hT
    have hv : hvF b L j = -1 := by unfold hvF; rw [if_neg (by omega)]
    have hst : tS b L k = j := hs.symm
    have hk0 := (tK_of (b := b) (L := L) (k := k)).1 (by omega)
    refine S_X9_next_0 ?_
    simp only [T_X9_next_0, fi_const, fi_iload, fi_aload, fi_istore, fi_astore, fi_iinc, fi_bin, fi_div, fi_un, fi_dup, fi_dup2, fi_pop, fi_if, fi_cmp, fi_getf, fi_putf, fi_putr, fi_ald, fi_ast, fi_alen, fi_iret, fi_zret, fi_vret, fi_cut, fi_no, fi_s0, fi_s1, fi_s2, fi_s3, fi_s4, fi_v0, fi_v1, fi_v2, fi_v3, fi_v4, fi_v5, fi_n0, fi_n1, fi_n2, fi_mm, fi_stat, fi_alds, fi_tsw, List.getElem?_cons_zero, List.getElem?_cons_succ, List.set_cons_zero, List.set_cons_succ, List.length_cons, List.length_nil, Option.toList_some, Option.toList_none, List.cons_append, List.nil_append, Value.category, true_and, k_0, k_1, k_2, k_3, k_4, false_implies, true_implies, reduceCtorEq, hM.1]
    refine ⟨by decide, ⟨_, rfl⟩, (c_here hM hT (by omega) h11).mono ?_⟩
    rintro r M' ⟨rfl, rfl⟩
    rw [hv]
    simp only [fi_const, fi_iload, fi_aload, fi_istore, fi_astore, fi_iinc, fi_bin, fi_div, fi_un, fi_dup, fi_dup2, fi_pop, fi_if, fi_cmp, fi_getf, fi_putf, fi_putr, fi_ald, fi_ast, fi_alen, fi_iret, fi_zret, fi_vret, fi_cut, fi_no, fi_s0, fi_s1, fi_s2, fi_s3, fi_s4, fi_v0, fi_v1, fi_v2, fi_v3, fi_v4, fi_v5, fi_n0, fi_n1, fi_n2, fi_mm, fi_stat, fi_alds, fi_tsw, List.getElem?_cons_zero, List.getElem?_cons_succ, List.set_cons_zero, List.set_cons_succ, List.length_cons, List.length_nil, Option.toList_some, Option.toList_none, List.cons_append, List.nil_append, Value.category, true_and, k_0, k_1, k_2, k_3, k_4, false_implies, true_implies, reduceCtorEq, hM.1]
    refine ⟨fun w => absurd w (by decide), fun _ => ⟨by decide, ⟨_, rfl⟩, (c_here hM hT (by omega) h11).mono ?_⟩⟩
    rintro r M' ⟨rfl, rfl⟩
    rw [hv]
    simp only [fi_const, fi_iload, fi_aload, fi_istore, fi_astore, fi_iinc, fi_bin, fi_div, fi_un, fi_dup, fi_dup2, fi_pop, fi_if, fi_cmp, fi_getf, fi_putf, fi_putr, fi_ald, fi_ast, fi_alen, fi_iret, fi_zret, fi_vret, fi_cut, fi_no, fi_s0, fi_s1, fi_s2, fi_s3, fi_s4, fi_v0, fi_v1, fi_v2, fi_v3, fi_v4, fi_v5, fi_n0, fi_n1, fi_n2, fi_mm, fi_stat, fi_alds, fi_tsw, List.getElem?_cons_zero, List.getElem?_cons_succ, List.set_cons_zero, List.set_cons_succ, List.length_cons, List.length_nil, Option.toList_some, Option.toList_none, List.cons_append, List.nil_append, Value.category, true_and, k_0, k_1, k_2, k_3, k_4, false_implies, true_implies, reduceCtorEq, hM.1]
    refine ⟨fun w => absurd w (by decide), fun _ => ⟨by decide, ⟨_, rfl⟩, (c_here hM (hT.keep (tkM.u (by decide) (by decide))) (show j ≤ L by omega) (by simp only [fs_u]; rw [if_neg (by decide)]; exact h11)).mono ?_⟩⟩
    rintro r M' ⟨rfl, rfl⟩
    rw [hv]
    simp only [fi_const, fi_iload, fi_aload, fi_istore, fi_astore, fi_iinc, fi_bin, fi_div, fi_un, fi_dup, fi_dup2, fi_pop, fi_if, fi_cmp, fi_getf, fi_putf, fi_putr, fi_ald, fi_ast, fi_alen, fi_iret, fi_zret, fi_vret, fi_cut, fi_no, fi_s0, fi_s1, fi_s2, fi_s3, fi_s4, fi_v0, fi_v1, fi_v2, fi_v3, fi_v4, fi_v5, fi_n0, fi_n1, fi_n2, fi_mm, fi_stat, fi_alds, fi_tsw, List.getElem?_cons_zero, List.getElem?_cons_succ, List.set_cons_zero, List.set_cons_succ, List.length_cons, List.length_nil, Option.toList_some, Option.toList_none, List.cons_append, List.nil_append, Value.category, true_and, k_0, k_1, k_2, k_3, k_4, false_implies, true_implies, reduceCtorEq, hM.1]
    refine ⟨?_, fun w => absurd trivial w⟩
    refine ⟨_, rfl, (tkM.u (by decide) (by decide)).tr (tkM.u (by decide) (by decide)), ?_, ?_, ?_, fun w => by omega, fun w => by omega⟩
    · rw [u_eq, hk0]; rfl
    · simp only [fs_u]; rw [if_neg (by decide), if_pos ⟨trivial, trivial⟩, h11, hst]
    · simp only [fs_u]; rw [if_neg (by decide), if_neg (by decide), h11]; unfold tE; rw [if_pos hk0, hst]
  | succ n ih =>
    intro j σ hj hT h11 hs
    obtain ⟨h10, hL, hb⟩ := id hT
    obtain ⟨hb1, hb2⟩ := hb j (by omega)
    have hv : hvF b L j = nI (b j) := by unfold hvF; rw [if_pos (by omega)]
    have s10 : nI (b j) = 10 ↔ b j = 10 := nI_eq (b := 10) (by omega) (by decide)
    have s32 : nI (b j) = 32 ↔ b j = 32 := nI_eq (b := 32) (by omega) (by decide)
    have go : isSp (b j) = true → fs_R g m_X9_next d (0, 0) 0 [.ref 56, z] [] ((S, fr), fs_u σ 56 11 (nI (j + 1)), τ) (fun r M' => r = none ∧ ∃ σ', M' = ((S, fr), σ', τ) ∧ tkM σ σ' ∧ TM σ' b L k) := by
      intro q
      simp only [scn] at hs
      rw [if_pos q] at hs
      refine fs_R_mono (ih (j + 1) (fs_u σ 56 11 (nI (j + 1))) (by omega) (hT.keep (tkM.u (by decide) (by decide))) (u_eq ..) hs) ?_
      rintro r M' ⟨rfl, σ', rfl, f1, f2⟩
      exact ⟨rfl, σ', rfl, (tkM.u (by decide) (by decide)).tr f1, f2⟩
    refine S_X9_next_0 ?_
    simp only [T_X9_next_0, fi_const, fi_iload, fi_aload, fi_istore, fi_astore, fi_iinc, fi_bin, fi_div, fi_un, fi_dup, fi_dup2, fi_pop, fi_if, fi_cmp, fi_getf, fi_putf, fi_putr, fi_ald, fi_ast, fi_alen, fi_iret, fi_zret, fi_vret, fi_cut, fi_no, fi_s0, fi_s1, fi_s2, fi_s3, fi_s4, fi_v0, fi_v1, fi_v2, fi_v3, fi_v4, fi_v5, fi_n0, fi_n1, fi_n2, fi_mm, fi_stat, fi_alds, fi_tsw, List.getElem?_cons_zero, List.getElem?_cons_succ, List.set_cons_zero, List.set_cons_succ, List.length_cons, List.length_nil, Option.toList_some, Option.toList_none, List.cons_append, List.nil_append, Value.category, true_and, k_0, k_1, k_2, k_3, k_4, false_implies, true_implies, reduceCtorEq, hM.1]
    refine ⟨by decide, ⟨_, rfl⟩, (c_here hM hT (by omega) h11).mono ?_⟩
    rintro r M' ⟨rfl, rfl⟩
    rw [hv]
    simp only [fi_const, fi_iload, fi_aload, fi_istore, fi_astore, fi_iinc, fi_bin, fi_div, fi_un, fi_dup, fi_dup2, fi_pop, fi_if, fi_cmp, fi_getf, fi_putf, fi_putr, fi_ald, fi_ast, fi_alen, fi_iret, fi_zret, fi_vret, fi_cut, fi_no, fi_s0, fi_s1, fi_s2, fi_s3, fi_s4, fi_v0, fi_v1, fi_v2, fi_v3, fi_v4, fi_v5, fi_n0, fi_n1, fi_n2, fi_mm, fi_stat, fi_alds, fi_tsw, List.getElem?_cons_zero, List.getElem?_cons_succ, List.set_cons_zero, List.set_cons_succ, List.length_cons, List.length_nil, Option.toList_some, Option.toList_none, List.cons_append, List.nil_append, Value.category, true_and, k_0, k_1, k_2, k_3, k_4, false_implies, true_implies, reduceCtorEq, hM.1, h11, nI_1]
    refine ⟨fun w => go (by unfold isSp; rw [s10.mp w]; rfl), fun w => ⟨by decide, ⟨_, rfl⟩, (c_here hM hT (by omega) h11).mono ?_⟩⟩
    rintro r M' ⟨rfl, rfl⟩
    rw [hv]
    simp only [fi_const, fi_iload, fi_aload, fi_istore, fi_astore, fi_iinc, fi_bin, fi_div, fi_un, fi_dup, fi_dup2, fi_pop, fi_if, fi_cmp, fi_getf, fi_putf, fi_putr, fi_ald, fi_ast, fi_alen, fi_iret, fi_zret, fi_vret, fi_cut, fi_no, fi_s0, fi_s1, fi_s2, fi_s3, fi_s4, fi_v0, fi_v1, fi_v2, fi_v3, fi_v4, fi_v5, fi_n0, fi_n1, fi_n2, fi_mm, fi_stat, fi_alds, fi_tsw, List.getElem?_cons_zero, List.getElem?_cons_succ, List.set_cons_zero, List.set_cons_succ, List.length_cons, List.length_nil, Option.toList_some, Option.toList_none, List.cons_append, List.nil_append, Value.category, true_and, k_0, k_1, k_2, k_3, k_4, false_implies, true_implies, reduceCtorEq, hM.1, h11, nI_1]
    refine ⟨fun w2 => go (by unfold isSp; rw [s32.mp w2]; rfl), fun w2 => ?_⟩
    have hns : isSp (b j) = false := by unfold isSp; rw [decide_eq_false (fun y => w2 (s32.mpr y)), decide_eq_false (fun y => w (s10.mpr y))]; rfl
    have hst : tS b L k = j := by
      simp only [scn] at hs
      rw [if_neg (by rw [hns]; decide)] at hs
      exact hs.symm
    obtain ⟨t1a, t1b⟩ := (tK_of (b := b) (L := L) (k := k)).2 (by omega)
    rw [hst] at t1a t1b
    have c1 : tkM σ (fs_u σ 56 12 (nI j)) := tkM.u (by decide) (by decide)
    have hT1 := hT.keep c1
    have e11 : fs_u σ 56 12 (nI j) 56 11 = nI j := by simp only [fs_u]; rw [if_neg (by decide)]; exact h11
    refine ⟨by decide, ⟨_, rfl⟩, (c_here hM hT1 (show j ≤ L by omega) e11).mono ?_⟩
    rintro r M' ⟨rfl, rfl⟩
    rw [hv]
    simp only [fi_const, fi_iload, fi_aload, fi_istore, fi_astore, fi_iinc, fi_bin, fi_div, fi_un, fi_dup, fi_dup2, fi_pop, fi_if, fi_cmp, fi_getf, fi_putf, fi_putr, fi_ald, fi_ast, fi_alen, fi_iret, fi_zret, fi_vret, fi_cut, fi_no, fi_s0, fi_s1, fi_s2, fi_s3, fi_s4, fi_v0, fi_v1, fi_v2, fi_v3, fi_v4, fi_v5, fi_n0, fi_n1, fi_n2, fi_mm, fi_stat, fi_alds, fi_tsw, List.getElem?_cons_zero, List.getElem?_cons_succ, List.set_cons_zero, List.set_cons_succ, List.length_cons, List.length_nil, Option.toList_some, Option.toList_none, List.cons_append, List.nil_append, Value.category, true_and, k_0, k_1, k_2, k_3, k_4, false_implies, true_implies, reduceCtorEq, hM.1]
    refine ⟨fun y => absurd y (nI_m1 (by omega)), fun _ => ⟨by decide, (c_isSmall _).mono ?_⟩⟩
    rintro r M' ⟨rfl, rfl⟩
    rw [← hv, smF_hv (fun z => (hb j z).1), decide_eq_true (show j < L by omega), Bool.true_and, hv]
    simp only [fi_const, fi_iload, fi_aload, fi_istore, fi_astore, fi_iinc, fi_bin, fi_div, fi_un, fi_dup, fi_dup2, fi_pop, fi_if, fi_cmp, fi_getf, fi_putf, fi_putr, fi_ald, fi_ast, fi_alen, fi_iret, fi_zret, fi_vret, fi_cut, fi_no, fi_s0, fi_s1, fi_s2, fi_s3, fi_s4, fi_v0, fi_v1, fi_v2, fi_v3, fi_v4, fi_v5, fi_n0, fi_n1, fi_n2, fi_mm, fi_stat, fi_alds, fi_tsw, List.getElem?_cons_zero, List.getElem?_cons_succ, List.set_cons_zero, List.set_cons_succ, List.length_cons, List.length_nil, Option.toList_some, Option.toList_none, List.cons_append, List.nil_append, Value.category, true_and, k_0, k_1, k_2, k_3, k_4, false_implies, true_implies, reduceCtorEq, bI_eq0, hM.1]
    refine ⟨fun q => ⟨by decide, (c_isDigitM _).mono ?_⟩, fun q => ?_⟩
    · rintro r M' ⟨rfl, rfl⟩
      obtain ⟨t2a, t2b⟩ := t1b q
      rw [← hv, dgF_hv (fun z => (hb j z).1), decide_eq_true (show j < L by omega), Bool.true_and, hv]
      have e11' : ∀ x, fs_u (fs_u σ 56 12 (nI j)) 56 13 x 56 11 = nI j := fun x => by simp only [fs_u]; rw [if_neg (by decide), if_neg (by decide)]; exact h11
      simp only [fi_const, fi_iload, fi_aload, fi_istore, fi_astore, fi_iinc, fi_bin, fi_div, fi_un, fi_dup, fi_dup2, fi_pop, fi_if, fi_cmp, fi_getf, fi_putf, fi_putr, fi_ald, fi_ast, fi_alen, fi_iret, fi_zret, fi_vret, fi_cut, fi_no, fi_s0, fi_s1, fi_s2, fi_s3, fi_s4, fi_v0, fi_v1, fi_v2, fi_v3, fi_v4, fi_v5, fi_n0, fi_n1, fi_n2, fi_mm, fi_stat, fi_alds, fi_tsw, List.getElem?_cons_zero, List.getElem?_cons_succ, List.set_cons_zero, List.set_cons_succ, List.length_cons, List.length_nil, Option.toList_some, Option.toList_none, List.cons_append, List.nil_append, Value.category, true_and, k_0, k_1, k_2, k_3, k_4, false_implies, true_implies, reduceCtorEq, bI_eq0, hM.1, e11', nI_1]
      refine ⟨fun q2 => ?_, fun q2 => ?_⟩
      · obtain ⟨t3a, t3b⟩ := t2b q2
        have s59 : nI (b j) = 59 ↔ b j = 59 := nI_eq (b := 59) (by omega) (by decide)
        have fin : ∀ x : Nat, tK b L k = x → x ≠ 0 → x ≠ 1 → x ≠ 2 → ∃ σ', ((S, fr), fs_u (fs_u (fs_u σ 56 12 (nI j)) 56 13 (kM x)) 56 11 (nI (j + 1)), τ) = ((S, fr), σ', τ) ∧ tkM σ σ' ∧ TM σ' b L k := by
          intro x hx n0 n1 n2
          refine ⟨_, rfl, (c1.tr (tkM.u (by decide) (by decide))).tr (tkM.u (by decide) (by decide)), ?_, ?_, ?_, fun w => by omega, fun w => by omega⟩
          · simp only [fs_u]; rw [if_neg (by decide), if_pos ⟨trivial, trivial⟩, hx]
          · simp only [fs_u]; rw [if_neg (by decide), if_neg (by decide), if_pos ⟨trivial, trivial⟩, hst]
          · rw [u_eq]; unfold tE; rw [if_neg (by omega), if_neg (by omega), if_neg (by omega), hst]
        refine ⟨fun q3 => ?_, fun q3 => ?_⟩
        · exact fin 3 (t3a (s59.mp q3)) (by decide) (by decide) (by decide)
        · exact fin 4 (t3b (fun z => q3 (s59.mpr z))) (by decide) (by decide) (by decide)
      · have q2' : isDg (b j) = true := by cases w : isDg (b j); exact absurd w q2; rfl
        have hk2 := t2a q2'
        refine fs_R_mono (l_next120 hM hk hk2 (L - j) j 0 _ (by omega) (by decide) (hT1.keep ((tkM.u (c := 13) (x := 1) (by decide) (by decide)).tr (tkM.u (c := 14) (x := 0) (by decide) (by decide)))) ?_ ?_ ?_ ?_ ?_ ?_) ?_
        · simp only [fs_u]; rw [if_neg (by decide), if_neg (by decide), if_neg (by decide)]; exact h11
        · simp only [fs_u]; rw [if_neg (by decide), if_neg (by decide), if_pos ⟨trivial, trivial⟩, hst]
        · simp only [fs_u]; rw [if_neg (by decide), if_pos ⟨trivial, trivial⟩]
        · rw [u_eq]; rfl
        · unfold tE; rw [if_neg (by omega), if_neg (by omega), if_pos hk2, hst]
        · unfold tV; rw [hst]
        rintro r M' ⟨rfl, σ', rfl, f1, f2⟩
        exact ⟨rfl, σ', rfl, ((c1.tr (tkM.u (by decide) (by decide))).tr (tkM.u (by decide) (by decide))).tr f1, f2⟩
    · have q' : isLt (b j) = true := by cases w : isLt (b j); exact absurd w q; rfl
      have hk1 := t1a q'
      refine fs_R_mono (l_next64 hM hk hk1 (L - j) j _ (by omega) hT1 e11 (by rw [u_eq, hst]) ?_) ?_
      · unfold tE; rw [if_neg (by omega), if_pos hk1, hst]
      rintro r M' ⟨rfl, σ', rfl, f1, f2⟩
      exact ⟨rfl, σ', rfl, c1.tr f1, f2⟩
theorem c_next (hM : shM S 56) {k : Nat} (hk : k ≤ L) (hT : TXM σ b L) (h11 : σ 56 11 = nI k) : fs_Ct g m_X9_next [.ref 56] ((S, fr), σ, τ) (fun r M' => r = none ∧ ∃ σ', M' = ((S, fr), σ', τ) ∧ tkM σ σ' ∧ TM σ' b L k) := by
  refine fs_enterC (by decide) (by simp [fs_ok]) (Nat.le_of_ble_eq_true rfl) (fun d => ?_)
  exact l_next0 hM hk (L - k) k σ (by omega) hT h11 rfl
end PT3
