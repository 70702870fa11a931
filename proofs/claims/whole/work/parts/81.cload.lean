/-! ===== the loader of the class: its takers ===== -/
theorem bt_shl5 (x : Int32) {j : Nat} (hj : j < 32) : bt (x <<< ((5 : Int32) &&& 31)) j = (decide (5 ≤ j) && bt x (j - 5)) := by
  have e : (x <<< ((5 : Int32) &&& 31)).toBitVec = x.toBitVec <<< 5 := by
    rw [show ((5 : Int32) &&& 31) = 5 from by decide, Int32.toBitVec_shiftLeft]
    rfl
  unfold bt
  rw [e, BitVec.getLsbD_shiftLeft]
  by_cases q : j < 5
  · simp [q, hj, show ¬ 5 ≤ j by omega]
  · simp [q, hj, show 5 ≤ j by omega]
theorem nmG_hi {b : Nat → Nat} {st en : Nat} (hl : ∀ j, st ≤ j → j < en → 97 ≤ b j ∧ b j ≤ 122) : ∀ n i x, i + n = 6 → (∀ j, 5 * i ≤ j → bt x j = false) → ∀ j, 30 ≤ j → bt (nmG b st en n i x) j = false
  | 0, i, x, h, hx, j, hj => hx j (by omega)
  | n + 1, i, x, h, hx, j, hj => by
    simp only [nmG]
    refine nmG_hi hl n (i + 1) _ (by omega) (fun m hm => ?_) j hj
    by_cases q : m < 32
    · rw [bt_or, bt_shl5 x q, hx (m - 5) (by omega), Bool.and_false, Bool.false_or]
      by_cases w : st + i < en
      · rw [if_pos w]
        obtain ⟨h1, h2⟩ := hl (st + i) (by omega) w
        rw [show (97 : Int32) = nI 97 from rfl, pk_sub h1, nI_1, bt_nI _ q]
        exact Nat.testBit_lt_two_pow (Nat.lt_of_lt_of_le (show b (st + i) - 97 + 1 < 2 ^ 5 by omega) (Nat.pow_le_pow_right (by decide) (by omega)))
      · rw [if_neg w]; exact bt_zero m
    · exact bt_ge _ (by omega)
theorem tN_m1 {b : Nat → Nat} {L k : Nat} (hk : k ≤ L) (h : tK b L k = 1) : ¬ tN b L k = -1 := by
  intro z
  have := nmG_hi (b := b) (st := tS b L k) (en := tE b L k) (fun j h1 h2 => tW_lt hk h h1 h2) 6 0 0 rfl (fun j _ => bt_zero j) 31 (by decide)
  rw [show nmG b (tS b L k) (tE b L k) 6 0 0 = tN b L k from rfl, z, bt_m1 (by decide)] at this
  exact absurd this (by decide)
def loC (σ σ' : Nat → Nat → Int32) : Prop := ∀ a, a < 26 ∨ 45 < a → σ' a = σ a
theorem loC.rf {σ : Nat → Nat → Int32} : loC σ σ := fun _ _ => rfl
theorem loC.tr {σ σ1 σ2 : Nat → Nat → Int32} (h : loC σ σ1) (h2 : loC σ1 σ2) : loC σ σ2 := fun a z => (h2 a z).trans (h a z)
theorem loC.tk {σ σ' : Nat → Nat → Int32} (h : tkC σ σ') : loC σ σ' := fun a z => h.ne (by omega)
theorem loC.u {σ : Nat → Nat → Int32} {a c : Nat} {x : Int32} (h : 26 ≤ a) (h2 : a ≤ 45) : loC σ (fs_u σ a c x) := fun e z => fs_u_ne (by omega)
def ER (σ : Nat → Nat → Int32) (e : Er) : Prop := σ 26 4 = e.1 ∧ σ 26 1 = nI e.2
def DC (σ : Nat → Nat → Int32) (Z : Zt) : Prop :=
  (σ 27 0 = nI Z.2.2.1.1 ∧ σ 27 4 = nI Z.2.2.1.2.1 ∧ σ 27 7 = nI Z.2.2.1.2.2) ∧
  (∀ l, l < Z.2.2.1.1 → σ 28 l = Z.1 l ∧ σ 29 l = Z.1 (4 + l) ∧ σ 30 l = Z.1 (8 + l)) ∧
  (∀ a, a < Z.2.2.1.2.1 → σ 31 a = Z.1 (12 + a) ∧ σ 32 a = Z.1 (18 + a)) ∧
  (∀ k, k < Z.2.2.1.2.2 → σ 33 k = Z.1 (24 + k) ∧ σ 34 k = Z.1 (38 + k) ∧ σ 35 k = Z.1 (52 + k) ∧ σ 36 k = Z.1 (66 + k)) ∧
  (∀ k, k < 14 → σ 37 k = Z.2.1 (4 + k)) ∧ (∀ i, i < 4 → σ 38 i = Z.2.1 i) ∧
  tab σ 39 27 (σ 37) Z.2.2.1.2.2 ∧ σ 26 5 = Z.2.2.2.1 ∧ σ 26 6 = bI Z.2.2.2.2
theorem tab_keep {σ σ' : Nat → Nat → Int32} {n : Nat} (h : tab σ 39 27 (σ 37) n) (hs : ∀ a, 27 ≤ a → a ≤ 44 → σ' a = σ a) : tab σ' 39 27 (σ' 37) n := by
  unfold tab at h ⊢
  rw [hs 37 (by decide) (by decide), hs (39 + 1) (by decide) (by decide), hs (39 + 2) (by decide) (by decide), hs (39 + 3) (by decide) (by decide), hs (39 + 4) (by decide) (by decide), hs (39 + 5) (by decide) (by decide), hs (27 + 6) (by decide) (by decide), hs (27 + 7) (by decide) (by decide), hs (27 + 8) (by decide) (by decide), hs (27 + 9) (by decide) (by decide)]
  exact h
theorem DC.keep {σ σ' : Nat → Nat → Int32} {Z : Zt} (h : DC σ Z) (hs : ∀ a, 27 ≤ a → a ≤ 44 → σ' a = σ a) (h5 : σ' 26 5 = σ 26 5) (h6 : σ' 26 6 = σ 26 6) : DC σ' Z := by
  obtain ⟨a1, a2, a3, a4, a5, a6, a7, a8, a9⟩ := h
  refine ⟨?_, ?_, ?_, ?_, ?_, ?_, tab_keep a7 hs, h5.trans a8, h6.trans a9⟩
  · rw [hs 27 (by decide) (by decide)]; exact a1
  · rw [hs 28 (by decide) (by decide), hs 29 (by decide) (by decide), hs 30 (by decide) (by decide)]; exact a2
  · rw [hs 31 (by decide) (by decide), hs 32 (by decide) (by decide)]; exact a3
  · rw [hs 33 (by decide) (by decide), hs 34 (by decide) (by decide), hs 35 (by decide) (by decide), hs 36 (by decide) (by decide)]; exact a4
  · rw [hs 37 (by decide) (by decide)]; exact a5
  · rw [hs 38 (by decide) (by decide)]; exact a6
/-- the loader stands at the token at k, and its draft is Z -/
def LI (σ : Nat → Nat → Int32) (b : Nat → Nat) (L : Nat) (Z : Zt) (k : Nat) : Prop := TX σ b L ∧ k ≤ L ∧ TI σ b L k ∧ DC σ Z ∧ okZ Z
def tkQ (S : List fs_Sh) (fr : Bool) (τ : Nat → Nat → Int64) (σ : Nat → Nat → Int32) (b : Nat → Nat) (L : Nat) (o : Option Er) (v : Int32) (Z : Zt) (k' : Nat) : Option Value → fs_M → Prop := fun r M' => ∃ σ', M' = ((S, fr), σ', τ) ∧ loC σ σ' ∧ (match o with | some e => r = some (.int (-1)) ∧ ER σ' e | none => r = some (.int v) ∧ LI σ' b L Z k')
def rdQ (S : List fs_Sh) (fr : Bool) (τ : Nat → Nat → Int64) (σ : Nat → Nat → Int32) (b : Nat → Nat) (L : Nat) (o : Er ⊕ (Zt × Nat)) : Option Value → fs_M → Prop := fun r M' => ∃ σ', M' = ((S, fr), σ', τ) ∧ loC σ σ' ∧ (match o with | .inl e => r = some (.int 0) ∧ ER σ' e | .inr (Z, k) => r = some (.int 1) ∧ LI σ' b L Z k)
section PL1
variable {g : fs_G} {d : Nat} {S : List fs_Sh} {fr : Bool} {σ : Nat → Nat → Int32} {τ : Nat → Nat → Int64} {b : Nat → Nat} {L : Nat} {Z : Zt} {k : Nat}
theorem LI.tk {σ' : Nat → Nat → Int32} {k' : Nat} (h : LI σ b L Z k) (hs : tkC σ σ') (hk : k' ≤ L) (hI : TI σ' b L k') : LI σ' b L Z k' := by
  obtain ⟨h1, h2, h3, h4, h5⟩ := h
  exact ⟨h1.keep hs, hk, hI, h4.keep (fun a _ _ => hs.ne (by omega)) (hs 26 5 (by omega)) (hs 26 6 (by omega)), h5⟩
theorem c_adv (hS : shL S) (h : LI σ b L Z k) : fs_Ct g m_X6_advance [.ref 45] ((S, fr), σ, τ) (fun r M' => r = none ∧ ∃ σ', M' = ((S, fr), σ', τ) ∧ tkC σ σ' ∧ LI σ' b L Z (tE b L k)) := by
  obtain ⟨h1, h2, h3, h4, h5⟩ := id h
  have hk := (tE_k (b := b) h2).2
  refine (c_advance hS hk h1 h3.2.2.1).mono ?_
  rintro r M' ⟨rfl, σ', rfl, f1, f2⟩
  exact ⟨rfl, σ', rfl, f1, h.tk f1 hk f2⟩
theorem c_fail (hS : shL S) {p : Nat} (h : σ 45 1 = nI p) (c : Int32) : fs_Ct g m_X2_fail [.ref 26, .int c] ((S, fr), σ, τ) (fun r M' => r = some (.int 0) ∧ ∃ σ', M' = ((S, fr), σ', τ) ∧ loC σ σ' ∧ ER σ' (c, p)) := by
  refine fs_enterC (by decide) (by simp [fs_ok]) (Nat.le_of_ble_eq_true rfl) (fun d => S_X2_fail_0 ?_)
  show T_X2_fail_0 g d _ [.ref 26, .int c] [] _
  simp only [T_X2_fail_0, fi_const, fi_iload, fi_aload, fi_istore, fi_astore, fi_iinc, fi_bin, fi_div, fi_un, fi_dup, fi_dup2, fi_pop, fi_if, fi_cmp, fi_getf, fi_putf, fi_putr, fi_ald, fi_ast, fi_alen, fi_iret, fi_zret, fi_vret, fi_cut, fi_no, fi_s0, fi_s1, fi_s2, fi_s3, fi_s4, fi_v0, fi_v1, fi_v2, fi_v3, fi_v4, fi_v5, fi_n0, fi_n1, fi_n2, fi_mm, fi_stat, fi_alds, fi_tsw, List.getElem?_cons_zero, List.getElem?_cons_succ, List.set_cons_zero, List.set_cons_succ, List.length_cons, List.length_nil, Option.toList_some, Option.toList_none, List.cons_append, List.nil_append, Value.category, true_and, k_0, k_1, k_2, k_3, k_4, false_implies, true_implies, reduceCtorEq]
  have e : fs_u σ 26 4 c 45 1 = nI p := by rw [fs_u_ne (by decide)]; exact h
  simp only [fi_const, fi_iload, fi_aload, fi_istore, fi_astore, fi_iinc, fi_bin, fi_div, fi_un, fi_dup, fi_dup2, fi_pop, fi_if, fi_cmp, fi_getf, fi_putf, fi_putr, fi_ald, fi_ast, fi_alen, fi_iret, fi_zret, fi_vret, fi_cut, fi_no, fi_s0, fi_s1, fi_s2, fi_s3, fi_s4, fi_v0, fi_v1, fi_v2, fi_v3, fi_v4, fi_v5, fi_n0, fi_n1, fi_n2, fi_mm, fi_stat, fi_alds, fi_tsw, List.getElem?_cons_zero, List.getElem?_cons_succ, List.set_cons_zero, List.set_cons_succ, List.length_cons, List.length_nil, Option.toList_some, Option.toList_none, List.cons_append, List.nil_append, Value.category, true_and, k_0, k_1, k_2, k_3, k_4, false_implies, true_implies, reduceCtorEq, hS.1, hS.2.1, e]
  refine ⟨Or.inl trivial, _, rfl, (loC.u (by decide) (by decide)).tr (loC.u (by decide) (by decide)), ?_, u_eq ..⟩
  simp only [fs_u]
  rw [if_neg (by decide), if_pos ⟨trivial, trivial⟩]
theorem c_failed (hS : shL S) {p : Nat} (h : σ 45 1 = nI p) (c : Int32) : fs_Ct g m_X2_failed [.ref 26, .int c] ((S, fr), σ, τ) (fun r M' => r = some (.int (-1)) ∧ ∃ σ', M' = ((S, fr), σ', τ) ∧ loC σ σ' ∧ ER σ' (c, p)) := by
  refine fs_enterC (by decide) (by simp [fs_ok]) (Nat.le_of_ble_eq_true rfl) (fun d => S_X2_failed_0 ?_)
  show T_X2_failed_0 g d _ [.ref 26, .int c] [] _
  simp only [T_X2_failed_0, fi_const, fi_iload, fi_aload, fi_istore, fi_astore, fi_iinc, fi_bin, fi_div, fi_un, fi_dup, fi_dup2, fi_pop, fi_if, fi_cmp, fi_getf, fi_putf, fi_putr, fi_ald, fi_ast, fi_alen, fi_iret, fi_zret, fi_vret, fi_cut, fi_no, fi_s0, fi_s1, fi_s2, fi_s3, fi_s4, fi_v0, fi_v1, fi_v2, fi_v3, fi_v4, fi_v5, fi_n0, fi_n1, fi_n2, fi_mm, fi_stat, fi_alds, fi_tsw, List.getElem?_cons_zero, List.getElem?_cons_succ, List.set_cons_zero, List.set_cons_succ, List.length_cons, List.length_nil, Option.toList_some, Option.toList_none, List.cons_append, List.nil_append, Value.category, true_and, k_0, k_1, k_2, k_3, k_4, false_implies, true_implies, reduceCtorEq]
  simp only [fi_const, fi_iload, fi_aload, fi_istore, fi_astore, fi_iinc, fi_bin, fi_div, fi_un, fi_dup, fi_dup2, fi_pop, fi_if, fi_cmp, fi_getf, fi_putf, fi_putr, fi_ald, fi_ast, fi_alen, fi_iret, fi_zret, fi_vret, fi_cut, fi_no, fi_s0, fi_s1, fi_s2, fi_s3, fi_s4, fi_v0, fi_v1, fi_v2, fi_v3, fi_v4, fi_v5, fi_n0, fi_n1, fi_n2, fi_mm, fi_stat, fi_alds, fi_tsw, List.getElem?_cons_zero, List.getElem?_cons_succ, List.set_cons_zero, List.set_cons_succ, List.length_cons, List.length_nil, Option.toList_some, Option.toList_none, List.cons_append, List.nil_append, Value.category, true_and, k_0, k_1, k_2, k_3, k_4, false_implies, true_implies, reduceCtorEq, hS.1]
  refine ⟨by decide, ⟨_, rfl⟩, (c_fail hS h c).mono ?_⟩
  rintro r M' ⟨rfl, σ', rfl, f1, f2⟩
  simp only [fi_const, fi_iload, fi_aload, fi_istore, fi_astore, fi_iinc, fi_bin, fi_div, fi_un, fi_dup, fi_dup2, fi_pop, fi_if, fi_cmp, fi_getf, fi_putf, fi_putr, fi_ald, fi_ast, fi_alen, fi_iret, fi_zret, fi_vret, fi_cut, fi_no, fi_s0, fi_s1, fi_s2, fi_s3, fi_s4, fi_v0, fi_v1, fi_v2, fi_v3, fi_v4, fi_v5, fi_n0, fi_n1, fi_n2, fi_mm, fi_stat, fi_alds, fi_tsw, List.getElem?_cons_zero, List.getElem?_cons_succ, List.set_cons_zero, List.set_cons_succ, List.length_cons, List.length_nil, Option.toList_some, Option.toList_none, List.cons_append, List.nil_append, Value.category, true_and, k_0, k_1, k_2, k_3, k_4, false_implies, true_implies, reduceCtorEq]
  exact ⟨σ', rfl, f1, f2⟩
theorem c_takeNewName (hS : shL S) (h : LI σ b L Z k) : fs_Ct g m_X2_takeNewName [.ref 26] ((S, fr), σ, τ) (tkQ S fr τ σ b L (eNew b L k Z.1 Z.2.2.1.1 Z.2.2.1.2.1) (tN b L k) Z (tE b L k)) := by
  obtain ⟨h1, h2, h3, h4, h5⟩ := id h
  have hP := hS.2.2.2.1
  have hnL := h5.1.2.2.2.1
  have hnA := h5.1.2.2.2.2.1
  refine fs_enterC (by decide) (by simp [fs_ok]) (Nat.le_of_ble_eq_true rfl) (fun d => S_X2_takeNewName_0 ?_)
  show T_X2_takeNewName_0 g d _ [.ref 26, .null] [] _
  simp only [T_X2_takeNewName_0, fi_const, fi_iload, fi_aload, fi_istore, fi_astore, fi_iinc, fi_bin, fi_div, fi_un, fi_dup, fi_dup2, fi_pop, fi_if, fi_cmp, fi_getf, fi_putf, fi_putr, fi_ald, fi_ast, fi_alen, fi_iret, fi_zret, fi_vret, fi_cut, fi_no, fi_s0, fi_s1, fi_s2, fi_s3, fi_s4, fi_v0, fi_v1, fi_v2, fi_v3, fi_v4, fi_v5, fi_n0, fi_n1, fi_n2, fi_mm, fi_stat, fi_alds, fi_tsw, List.getElem?_cons_zero, List.getElem?_cons_succ, List.set_cons_zero, List.set_cons_succ, List.length_cons, List.length_nil, Option.toList_some, Option.toList_none, List.cons_append, List.nil_append, Value.category, true_and, k_0, k_1, k_2, k_3, k_4, false_implies, true_implies, reduceCtorEq]
  simp only [fi_const, fi_iload, fi_aload, fi_istore, fi_astore, fi_iinc, fi_bin, fi_div, fi_un, fi_dup, fi_dup2, fi_pop, fi_if, fi_cmp, fi_getf, fi_putf, fi_putr, fi_ald, fi_ast, fi_alen, fi_iret, fi_zret, fi_vret, fi_cut, fi_no, fi_s0, fi_s1, fi_s2, fi_s3, fi_s4, fi_v0, fi_v1, fi_v2, fi_v3, fi_v4, fi_v5, fi_n0, fi_n1, fi_n2, fi_mm, fi_stat, fi_alds, fi_tsw, List.getElem?_cons_zero, List.getElem?_cons_succ, List.set_cons_zero, List.set_cons_succ, List.length_cons, List.length_nil, Option.toList_some, Option.toList_none, List.cons_append, List.nil_append, Value.category, true_and, k_0, k_1, k_2, k_3, k_4, false_implies, true_implies, reduceCtorEq, hS.1]
  refine ⟨by decide, ⟨_, hS.2.1⟩, (c_isName hS h1 h2 h3).mono ?_⟩
  rintro r M' ⟨rfl, rfl⟩
  simp only [fi_const, fi_iload, fi_aload, fi_istore, fi_astore, fi_iinc, fi_bin, fi_div, fi_un, fi_dup, fi_dup2, fi_pop, fi_if, fi_cmp, fi_getf, fi_putf, fi_putr, fi_ald, fi_ast, fi_alen, fi_iret, fi_zret, fi_vret, fi_cut, fi_no, fi_s0, fi_s1, fi_s2, fi_s3, fi_s4, fi_v0, fi_v1, fi_v2, fi_v3, fi_v4, fi_v5, fi_n0, fi_n1, fi_n2, fi_mm, fi_stat, fi_alds, fi_tsw, List.getElem?_cons_zero, List.getElem?_cons_succ, List.set_cons_zero, List.set_cons_succ, List.length_cons, List.length_nil, Option.toList_some, Option.toList_none, List.cons_append, List.nil_append, Value.category, true_and, k_0, k_1, k_2, k_3, k_4, false_implies, true_implies, reduceCtorEq, bI_eq0, hS.1]
  unfold eNew
  refine ⟨fun q => ?_, fun q => ?_⟩
  · rw [if_neg (by rw [q]; decide)]
    refine ⟨by decide, ⟨_, rfl⟩, (c_failed hS h3.2.1 (-11)).mono ?_⟩
    rintro r M' ⟨rfl, σ', rfl, f1, f2⟩
    simp only [fi_const, fi_iload, fi_aload, fi_istore, fi_astore, fi_iinc, fi_bin, fi_div, fi_un, fi_dup, fi_dup2, fi_pop, fi_if, fi_cmp, fi_getf, fi_putf, fi_putr, fi_ald, fi_ast, fi_alen, fi_iret, fi_zret, fi_vret, fi_cut, fi_no, fi_s0, fi_s1, fi_s2, fi_s3, fi_s4, fi_v0, fi_v1, fi_v2, fi_v3, fi_v4, fi_v5, fi_n0, fi_n1, fi_n2, fi_mm, fi_stat, fi_alds, fi_tsw, List.getElem?_cons_zero, List.getElem?_cons_succ, List.set_cons_zero, List.set_cons_succ, List.length_cons, List.length_nil, Option.toList_some, Option.toList_none, List.cons_append, List.nil_append, Value.category, true_and, k_0, k_1, k_2, k_3, k_4, false_implies, true_implies, reduceCtorEq]
    exact ⟨σ', rfl, f1, rfl, f2⟩
  · have q' : isNm b L k = true := by cases w : isNm b L k; exact absurd w q; rfl
    rw [if_pos q']
    refine ⟨by decide, ⟨_, hS.2.1⟩, (c_letters hS h1 h2 h3 (isNm_1 q')).mono ?_⟩
    rintro r M' ⟨rfl, rfl⟩
    simp only [fi_const, fi_iload, fi_aload, fi_istore, fi_astore, fi_iinc, fi_bin, fi_div, fi_un, fi_dup, fi_dup2, fi_pop, fi_if, fi_cmp, fi_getf, fi_putf, fi_putr, fi_ald, fi_ast, fi_alen, fi_iret, fi_zret, fi_vret, fi_cut, fi_no, fi_s0, fi_s1, fi_s2, fi_s3, fi_s4, fi_v0, fi_v1, fi_v2, fi_v3, fi_v4, fi_v5, fi_n0, fi_n1, fi_n2, fi_mm, fi_stat, fi_alds, fi_tsw, List.getElem?_cons_zero, List.getElem?_cons_succ, List.set_cons_zero, List.set_cons_succ, List.length_cons, List.length_nil, Option.toList_some, Option.toList_none, List.cons_append, List.nil_append, Value.category, true_and, k_0, k_1, k_2, k_3, k_4, false_implies, true_implies, reduceCtorEq, hS.1]
    refine ⟨by decide, ⟨_, hP.1⟩, (c_locationWithName hP (tN b L k) hnL h4.1.1).mono ?_⟩
    rintro r M' ⟨rfl, rfl⟩
    have eL : fndB (σ (27 + 1)) (tN b L k) Z.2.2.1.1 0 = fndB Z.1 (tN b L k) Z.2.2.1.1 0 := fndB_congr _ _ (fun j hj => (h4.2.1 j (by omega)).1)
    have eA : fndB (σ (27 + 4)) (tN b L k) Z.2.2.1.2.1 0 = fndB (fr_ Z.1 12) (tN b L k) Z.2.2.1.2.1 0 := fndB_congr _ _ (fun j hj => (h4.2.2.1 j (by omega)).1)
    rw [eL]
    have bad : ¬ (fndB Z.1 (tN b L k) Z.2.2.1.1 0 = -1 ∧ fndB (fr_ Z.1 12) (tN b L k) Z.2.2.1.2.1 0 = -1) → 0 ≤ 4 ∧ (∃ rs, S[26]? = some (Sum.inr (2, rs))) ∧ fs_Ct g m_X2_failed [.ref 26, .int (-14)] ((S, fr), σ, τ) (fun r M' => ∃ x, r = some (.int x) ∧ tkQ S fr τ σ b L (if fndB Z.1 (tN b L k) Z.2.2.1.1 0 = -1 ∧ fndB (fr_ Z.1 12) (tN b L k) Z.2.2.1.2.1 0 = -1 then none else some (-14, tS b L k)) (tN b L k) Z (tE b L k) (some (.int x)) M') := by
      intro z
      rw [if_neg z]
      refine ⟨by decide, ⟨_, hS.1⟩, (c_failed hS h3.2.1 (-14)).mono ?_⟩
      rintro r M' ⟨rfl, σ', rfl, f1, f2⟩
      exact ⟨_, rfl, σ', rfl, f1, rfl, f2⟩
    simp only [fi_const, fi_iload, fi_aload, fi_istore, fi_astore, fi_iinc, fi_bin, fi_div, fi_un, fi_dup, fi_dup2, fi_pop, fi_if, fi_cmp, fi_getf, fi_putf, fi_putr, fi_ald, fi_ast, fi_alen, fi_iret, fi_zret, fi_vret, fi_cut, fi_no, fi_s0, fi_s1, fi_s2, fi_s3, fi_s4, fi_v0, fi_v1, fi_v2, fi_v3, fi_v4, fi_v5, fi_n0, fi_n1, fi_n2, fi_mm, fi_stat, fi_alds, fi_tsw, List.getElem?_cons_zero, List.getElem?_cons_succ, List.set_cons_zero, List.set_cons_succ, List.length_cons, List.length_nil, Option.toList_some, Option.toList_none, List.cons_append, List.nil_append, Value.category, true_and, k_0, k_1, k_2, k_3, k_4, false_implies, true_implies, reduceCtorEq, hS.1]
    refine ⟨fun q1 => ⟨by decide, ⟨_, hP.1⟩, (c_actorWithName hP (tN b L k) hnA h4.1.2.1).mono ?_⟩, fun q1 => ?_⟩
    · rintro r M' ⟨rfl, rfl⟩
      rw [eA]
      simp only [fi_const, fi_iload, fi_aload, fi_istore, fi_astore, fi_iinc, fi_bin, fi_div, fi_un, fi_dup, fi_dup2, fi_pop, fi_if, fi_cmp, fi_getf, fi_putf, fi_putr, fi_ald, fi_ast, fi_alen, fi_iret, fi_zret, fi_vret, fi_cut, fi_no, fi_s0, fi_s1, fi_s2, fi_s3, fi_s4, fi_v0, fi_v1, fi_v2, fi_v3, fi_v4, fi_v5, fi_n0, fi_n1, fi_n2, fi_mm, fi_stat, fi_alds, fi_tsw, List.getElem?_cons_zero, List.getElem?_cons_succ, List.set_cons_zero, List.set_cons_succ, List.length_cons, List.length_nil, Option.toList_some, Option.toList_none, List.cons_append, List.nil_append, Value.category, true_and, k_0, k_1, k_2, k_3, k_4, false_implies, true_implies, reduceCtorEq, hS.1]
      refine ⟨fun q2 => ?_, fun q2 => ?_⟩
      · rw [if_pos ⟨q1, q2⟩]
        refine ⟨by decide, ⟨_, hS.2.1⟩, (c_adv hS h).mono ?_⟩
        rintro r M' ⟨rfl, σ', rfl, f1, f2⟩
        simp only [fi_const, fi_iload, fi_aload, fi_istore, fi_astore, fi_iinc, fi_bin, fi_div, fi_un, fi_dup, fi_dup2, fi_pop, fi_if, fi_cmp, fi_getf, fi_putf, fi_putr, fi_ald, fi_ast, fi_alen, fi_iret, fi_zret, fi_vret, fi_cut, fi_no, fi_s0, fi_s1, fi_s2, fi_s3, fi_s4, fi_v0, fi_v1, fi_v2, fi_v3, fi_v4, fi_v5, fi_n0, fi_n1, fi_n2, fi_mm, fi_stat, fi_alds, fi_tsw, List.getElem?_cons_zero, List.getElem?_cons_succ, List.set_cons_zero, List.set_cons_succ, List.length_cons, List.length_nil, Option.toList_some, Option.toList_none, List.cons_append, List.nil_append, Value.category, true_and, k_0, k_1, k_2, k_3, k_4, false_implies, true_implies, reduceCtorEq]
        exact ⟨σ', rfl, loC.tk f1, rfl, f2⟩
      · obtain ⟨b1, b2, b3⟩ := bad (fun z => q2 z.2)
        refine ⟨b1, ⟨_, rfl⟩, b3.mono ?_⟩
        rintro r M' ⟨x, rfl, hx⟩
        simp only [fi_const, fi_iload, fi_aload, fi_istore, fi_astore, fi_iinc, fi_bin, fi_div, fi_un, fi_dup, fi_dup2, fi_pop, fi_if, fi_cmp, fi_getf, fi_putf, fi_putr, fi_ald, fi_ast, fi_alen, fi_iret, fi_zret, fi_vret, fi_cut, fi_no, fi_s0, fi_s1, fi_s2, fi_s3, fi_s4, fi_v0, fi_v1, fi_v2, fi_v3, fi_v4, fi_v5, fi_n0, fi_n1, fi_n2, fi_mm, fi_stat, fi_alds, fi_tsw, List.getElem?_cons_zero, List.getElem?_cons_succ, List.set_cons_zero, List.set_cons_succ, List.length_cons, List.length_nil, Option.toList_some, Option.toList_none, List.cons_append, List.nil_append, Value.category, true_and, k_0, k_1, k_2, k_3, k_4, false_implies, true_implies, reduceCtorEq]
        exact hx
    · obtain ⟨b1, b2, b3⟩ := bad (fun z => q1 z.1)
      refine ⟨b1, ⟨_, rfl⟩, b3.mono ?_⟩
      rintro r M' ⟨x, rfl, hx⟩
      simp only [fi_const, fi_iload, fi_aload, fi_istore, fi_astore, fi_iinc, fi_bin, fi_div, fi_un, fi_dup, fi_dup2, fi_pop, fi_if, fi_cmp, fi_getf, fi_putf, fi_putr, fi_ald, fi_ast, fi_alen, fi_iret, fi_zret, fi_vret, fi_cut, fi_no, fi_s0, fi_s1, fi_s2, fi_s3, fi_s4, fi_v0, fi_v1, fi_v2, fi_v3, fi_v4, fi_v5, fi_n0, fi_n1, fi_n2, fi_mm, fi_stat, fi_alds, fi_tsw, List.getElem?_cons_zero, List.getElem?_cons_succ, List.set_cons_zero, List.set_cons_succ, List.length_cons, List.length_nil, Option.toList_some, Option.toList_none, List.cons_append, List.nil_append, Value.category, true_and, k_0, k_1, k_2, k_3, k_4, false_implies, true_implies, reduceCtorEq]
      exact hx
theorem c_takeLocation (hS : shL S) (h : LI σ b L Z k) : fs_Ct g m_X2_takeLocation [.ref 26] ((S, fr), σ, τ) (tkQ S fr τ σ b L (eLoc b L k Z.1 Z.2.2.1.1) (fndB Z.1 (tN b L k) Z.2.2.1.1 0) Z (tE b L k)) := by
  obtain ⟨h1, h2, h3, h4, h5⟩ := id h
  have hP := hS.2.2.2.1
  have hnL := h5.1.2.2.2.1
  refine fs_enterC (by decide) (by simp [fs_ok]) (Nat.le_of_ble_eq_true rfl) (fun d => S_X2_takeLocation_0 ?_)
  show T_X2_takeLocation_0 g d _ [.ref 26, .null] [] _
  simp only [T_X2_takeLocation_0, fi_const, fi_iload, fi_aload, fi_istore, fi_astore, fi_iinc, fi_bin, fi_div, fi_un, fi_dup, fi_dup2, fi_pop, fi_if, fi_cmp, fi_getf, fi_putf, fi_putr, fi_ald, fi_ast, fi_alen, fi_iret, fi_zret, fi_vret, fi_cut, fi_no, fi_s0, fi_s1, fi_s2, fi_s3, fi_s4, fi_v0, fi_v1, fi_v2, fi_v3, fi_v4, fi_v5, fi_n0, fi_n1, fi_n2, fi_mm, fi_stat, fi_alds, fi_tsw, List.getElem?_cons_zero, List.getElem?_cons_succ, List.set_cons_zero, List.set_cons_succ, List.length_cons, List.length_nil, Option.toList_some, Option.toList_none, List.cons_append, List.nil_append, Value.category, true_and, k_0, k_1, k_2, k_3, k_4, false_implies, true_implies, reduceCtorEq]
  simp only [fi_const, fi_iload, fi_aload, fi_istore, fi_astore, fi_iinc, fi_bin, fi_div, fi_un, fi_dup, fi_dup2, fi_pop, fi_if, fi_cmp, fi_getf, fi_putf, fi_putr, fi_ald, fi_ast, fi_alen, fi_iret, fi_zret, fi_vret, fi_cut, fi_no, fi_s0, fi_s1, fi_s2, fi_s3, fi_s4, fi_v0, fi_v1, fi_v2, fi_v3, fi_v4, fi_v5, fi_n0, fi_n1, fi_n2, fi_mm, fi_stat, fi_alds, fi_tsw, List.getElem?_cons_zero, List.getElem?_cons_succ, List.set_cons_zero, List.set_cons_succ, List.length_cons, List.length_nil, Option.toList_some, Option.toList_none, List.cons_append, List.nil_append, Value.category, true_and, k_0, k_1, k_2, k_3, k_4, false_implies, true_implies, reduceCtorEq, hS.1]
  refine ⟨by decide, ⟨_, hS.2.1⟩, (c_isName hS h1 h2 h3).mono ?_⟩
  rintro r M' ⟨rfl, rfl⟩
  simp only [fi_const, fi_iload, fi_aload, fi_istore, fi_astore, fi_iinc, fi_bin, fi_div, fi_un, fi_dup, fi_dup2, fi_pop, fi_if, fi_cmp, fi_getf, fi_putf, fi_putr, fi_ald, fi_ast, fi_alen, fi_iret, fi_zret, fi_vret, fi_cut, fi_no, fi_s0, fi_s1, fi_s2, fi_s3, fi_s4, fi_v0, fi_v1, fi_v2, fi_v3, fi_v4, fi_v5, fi_n0, fi_n1, fi_n2, fi_mm, fi_stat, fi_alds, fi_tsw, List.getElem?_cons_zero, List.getElem?_cons_succ, List.set_cons_zero, List.set_cons_succ, List.length_cons, List.length_nil, Option.toList_some, Option.toList_none, List.cons_append, List.nil_append, Value.category, true_and, k_0, k_1, k_2, k_3, k_4, false_implies, true_implies, reduceCtorEq, bI_eq0, hS.1]
  unfold eLoc
  refine ⟨fun q => ?_, fun q => ?_⟩
  · rw [if_neg (by rw [q]; decide)]
    refine ⟨by decide, ⟨_, rfl⟩, (c_failed hS h3.2.1 (-11)).mono ?_⟩
    rintro r M' ⟨rfl, σ', rfl, f1, f2⟩
    simp only [fi_const, fi_iload, fi_aload, fi_istore, fi_astore, fi_iinc, fi_bin, fi_div, fi_un, fi_dup, fi_dup2, fi_pop, fi_if, fi_cmp, fi_getf, fi_putf, fi_putr, fi_ald, fi_ast, fi_alen, fi_iret, fi_zret, fi_vret, fi_cut, fi_no, fi_s0, fi_s1, fi_s2, fi_s3, fi_s4, fi_v0, fi_v1, fi_v2, fi_v3, fi_v4, fi_v5, fi_n0, fi_n1, fi_n2, fi_mm, fi_stat, fi_alds, fi_tsw, List.getElem?_cons_zero, List.getElem?_cons_succ, List.set_cons_zero, List.set_cons_succ, List.length_cons, List.length_nil, Option.toList_some, Option.toList_none, List.cons_append, List.nil_append, Value.category, true_and, k_0, k_1, k_2, k_3, k_4, false_implies, true_implies, reduceCtorEq]
    exact ⟨σ', rfl, f1, rfl, f2⟩
  · have q' : isNm b L k = true := by cases w : isNm b L k; exact absurd w q; rfl
    rw [if_pos q']
    refine ⟨Nat.le_of_ble_eq_true rfl, ⟨_, hS.2.1⟩, (c_letters hS h1 h2 h3 (isNm_1 q')).mono ?_⟩
    rintro r M' ⟨rfl, rfl⟩
    simp only [fi_const, fi_iload, fi_aload, fi_istore, fi_astore, fi_iinc, fi_bin, fi_div, fi_un, fi_dup, fi_dup2, fi_pop, fi_if, fi_cmp, fi_getf, fi_putf, fi_putr, fi_ald, fi_ast, fi_alen, fi_iret, fi_zret, fi_vret, fi_cut, fi_no, fi_s0, fi_s1, fi_s2, fi_s3, fi_s4, fi_v0, fi_v1, fi_v2, fi_v3, fi_v4, fi_v5, fi_n0, fi_n1, fi_n2, fi_mm, fi_stat, fi_alds, fi_tsw, List.getElem?_cons_zero, List.getElem?_cons_succ, List.set_cons_zero, List.set_cons_succ, List.length_cons, List.length_nil, Option.toList_some, Option.toList_none, List.cons_append, List.nil_append, Value.category, true_and, k_0, k_1, k_2, k_3, k_4, false_implies, true_implies, reduceCtorEq, hS.1]
    refine ⟨by decide, ⟨_, hP.1⟩, (c_locationWithName hP (tN b L k) hnL h4.1.1).mono ?_⟩
    rintro r M' ⟨rfl, rfl⟩
    have eL : fndB (σ (27 + 1)) (tN b L k) Z.2.2.1.1 0 = fndB Z.1 (tN b L k) Z.2.2.1.1 0 := fndB_congr _ _ (fun j hj => (h4.2.1 j (by omega)).1)
    rw [eL]
    simp only [fi_const, fi_iload, fi_aload, fi_istore, fi_astore, fi_iinc, fi_bin, fi_div, fi_un, fi_dup, fi_dup2, fi_pop, fi_if, fi_cmp, fi_getf, fi_putf, fi_putr, fi_ald, fi_ast, fi_alen, fi_iret, fi_zret, fi_vret, fi_cut, fi_no, fi_s0, fi_s1, fi_s2, fi_s3, fi_s4, fi_v0, fi_v1, fi_v2, fi_v3, fi_v4, fi_v5, fi_n0, fi_n1, fi_n2, fi_mm, fi_stat, fi_alds, fi_tsw, List.getElem?_cons_zero, List.getElem?_cons_succ, List.set_cons_zero, List.set_cons_succ, List.length_cons, List.length_nil, Option.toList_some, Option.toList_none, List.cons_append, List.nil_append, Value.category, true_and, k_0, k_1, k_2, k_3, k_4, false_implies, true_implies, reduceCtorEq, hS.1]
    refine ⟨fun q1 => ?_, fun q1 => ?_⟩
    · rw [if_pos q1]
      refine ⟨by decide, ⟨_, rfl⟩, (c_failed hS h3.2.1 (-13)).mono ?_⟩
      rintro r M' ⟨rfl, σ', rfl, f1, f2⟩
      simp only [fi_const, fi_iload, fi_aload, fi_istore, fi_astore, fi_iinc, fi_bin, fi_div, fi_un, fi_dup, fi_dup2, fi_pop, fi_if, fi_cmp, fi_getf, fi_putf, fi_putr, fi_ald, fi_ast, fi_alen, fi_iret, fi_zret, fi_vret, fi_cut, fi_no, fi_s0, fi_s1, fi_s2, fi_s3, fi_s4, fi_v0, fi_v1, fi_v2, fi_v3, fi_v4, fi_v5, fi_n0, fi_n1, fi_n2, fi_mm, fi_stat, fi_alds, fi_tsw, List.getElem?_cons_zero, List.getElem?_cons_succ, List.set_cons_zero, List.set_cons_succ, List.length_cons, List.length_nil, Option.toList_some, Option.toList_none, List.cons_append, List.nil_append, Value.category, true_and, k_0, k_1, k_2, k_3, k_4, false_implies, true_implies, reduceCtorEq]
      exact ⟨σ', rfl, f1, rfl, f2⟩
    · rw [if_neg q1]
      refine ⟨by decide, ⟨_, hS.2.1⟩, (c_adv hS h).mono ?_⟩
      rintro r M' ⟨rfl, σ', rfl, f1, f2⟩
      simp only [fi_const, fi_iload, fi_aload, fi_istore, fi_astore, fi_iinc, fi_bin, fi_div, fi_un, fi_dup, fi_dup2, fi_pop, fi_if, fi_cmp, fi_getf, fi_putf, fi_putr, fi_ald, fi_ast, fi_alen, fi_iret, fi_zret, fi_vret, fi_cut, fi_no, fi_s0, fi_s1, fi_s2, fi_s3, fi_s4, fi_v0, fi_v1, fi_v2, fi_v3, fi_v4, fi_v5, fi_n0, fi_n1, fi_n2, fi_mm, fi_stat, fi_alds, fi_tsw, List.getElem?_cons_zero, List.getElem?_cons_succ, List.set_cons_zero, List.set_cons_succ, List.length_cons, List.length_nil, Option.toList_some, Option.toList_none, List.cons_append, List.nil_append, Value.category, true_and, k_0, k_1, k_2, k_3, k_4, false_implies, true_implies, reduceCtorEq]
      exact ⟨σ', rfl, loC.tk f1, rfl, f2⟩
theorem c_takeInteger (hS : shL S) (h : LI σ b L Z k) {lo hi : Nat} (hlo : lo < 100000) (hhi : hi < 100000) : fs_Ct g m_X2_takeInteger [.ref 26, .int (nI lo), .int (nI hi)] ((S, fr), σ, τ) (tkQ S fr τ σ b L (eInt b L lo hi k) (nI (tV b L k)) Z (tE b L k)) := by
  obtain ⟨h1, h2, h3, h4, h5⟩ := id h
  have hk4 := tK_le b L k
  have hv := tV_le b L k
  have fail : ∀ c : Int32, 0 ≤ 4 ∧ (∃ rs, S[26]? = some (Sum.inr (2, rs))) ∧ fs_Ct g m_X2_failed [.ref 26, .int c] ((S, fr), σ, τ) (fun r M' => ∃ x, r = some (.int x) ∧ tkQ S fr τ σ b L (some (c, tS b L k)) (nI (tV b L k)) Z (tE b L k) (some (.int x)) M') := by
    intro c
    refine ⟨by decide, ⟨_, hS.1⟩, (c_failed hS h3.2.1 c).mono ?_⟩
    rintro r M' ⟨rfl, σ', rfl, f1, f2⟩
    exact ⟨_, rfl, σ', rfl, f1, rfl, f2⟩
  refine fs_enterC (by decide) (by simp [fs_ok]) (Nat.le_of_ble_eq_true rfl) (fun d => S_X2_takeInteger_0 ?_)
  show T_X2_takeInteger_0 g d _ [.ref 26, .int (nI lo), .int (nI hi), .null] [] _
  simp only [T_X2_takeInteger_0, fi_const, fi_iload, fi_aload, fi_istore, fi_astore, fi_iinc, fi_bin, fi_div, fi_un, fi_dup, fi_dup2, fi_pop, fi_if, fi_cmp, fi_getf, fi_putf, fi_putr, fi_ald, fi_ast, fi_alen, fi_iret, fi_zret, fi_vret, fi_cut, fi_no, fi_s0, fi_s1, fi_s2, fi_s3, fi_s4, fi_v0, fi_v1, fi_v2, fi_v3, fi_v4, fi_v5, fi_n0, fi_n1, fi_n2, fi_mm, fi_stat, fi_alds, fi_tsw, List.getElem?_cons_zero, List.getElem?_cons_succ, List.set_cons_zero, List.set_cons_succ, List.length_cons, List.length_nil, Option.toList_some, Option.toList_none, List.cons_append, List.nil_append, Value.category, true_and, k_0, k_1, k_2, k_3, k_4, false_implies, true_implies, reduceCtorEq]
  simp only [fi_const, fi_iload, fi_aload, fi_istore, fi_astore, fi_iinc, fi_bin, fi_div, fi_un, fi_dup, fi_dup2, fi_pop, fi_if, fi_cmp, fi_getf, fi_putf, fi_putr, fi_ald, fi_ast, fi_alen, fi_iret, fi_zret, fi_vret, fi_cut, fi_no, fi_s0, fi_s1, fi_s2, fi_s3, fi_s4, fi_v0, fi_v1, fi_v2, fi_v3, fi_v4, fi_v5, fi_n0, fi_n1, fi_n2, fi_mm, fi_stat, fi_alds, fi_tsw, List.getElem?_cons_zero, List.getElem?_cons_succ, List.set_cons_zero, List.set_cons_succ, List.length_cons, List.length_nil, Option.toList_some, Option.toList_none, List.cons_append, List.nil_append, Value.category, true_and, k_0, k_1, k_2, k_3, k_4, false_implies, true_implies, reduceCtorEq, hS.1, hS.2.1, h3.1]
  unfold eInt
  refine pk_eq (tK b L k) 2 (fun q => ?_) (fun q => ?_)
  · rw [if_pos q]
    have e2 := h3.2.2.2 q
    rw [e2]
    have hc : (if tV b L k ≤ 100000 then tV b L k else 100000) < 2 ^ 31 := by split <;> omega
    refine pk_lt (if tV b L k ≤ 100000 then tV b L k else 100000) lo (fun w => ?_) (fun w => pk_le (if tV b L k ≤ 100000 then tV b L k else 100000) hi (fun w2 => ?_) (fun w2 => ?_))
    · rw [if_pos (show tV b L k < lo ∨ hi < tV b L k from Or.inl (by split at w <;> omega))]
      obtain ⟨b1, b2, b3⟩ := fail (-12)
      refine ⟨b1, ⟨_, rfl⟩, b3.mono ?_⟩
      rintro r M' ⟨x, rfl, hx⟩
      simp only [fi_const, fi_iload, fi_aload, fi_istore, fi_astore, fi_iinc, fi_bin, fi_div, fi_un, fi_dup, fi_dup2, fi_pop, fi_if, fi_cmp, fi_getf, fi_putf, fi_putr, fi_ald, fi_ast, fi_alen, fi_iret, fi_zret, fi_vret, fi_cut, fi_no, fi_s0, fi_s1, fi_s2, fi_s3, fi_s4, fi_v0, fi_v1, fi_v2, fi_v3, fi_v4, fi_v5, fi_n0, fi_n1, fi_n2, fi_mm, fi_stat, fi_alds, fi_tsw, List.getElem?_cons_zero, List.getElem?_cons_succ, List.set_cons_zero, List.set_cons_succ, List.length_cons, List.length_nil, Option.toList_some, Option.toList_none, List.cons_append, List.nil_append, Value.category, true_and, k_0, k_1, k_2, k_3, k_4, false_implies, true_implies, reduceCtorEq]
      exact hx
    · have hle : tV b L k ≤ 100000 := by split at w2 <;> omega
      rw [if_pos hle] at w w2
      rw [if_neg (show ¬ (tV b L k < lo ∨ hi < tV b L k) by omega), if_pos hle]
      refine ⟨by decide, ⟨_, rfl⟩, (c_adv hS h).mono ?_⟩
      rintro r M' ⟨rfl, σ', rfl, f1, f2⟩
      simp only [fi_const, fi_iload, fi_aload, fi_istore, fi_astore, fi_iinc, fi_bin, fi_div, fi_un, fi_dup, fi_dup2, fi_pop, fi_if, fi_cmp, fi_getf, fi_putf, fi_putr, fi_ald, fi_ast, fi_alen, fi_iret, fi_zret, fi_vret, fi_cut, fi_no, fi_s0, fi_s1, fi_s2, fi_s3, fi_s4, fi_v0, fi_v1, fi_v2, fi_v3, fi_v4, fi_v5, fi_n0, fi_n1, fi_n2, fi_mm, fi_stat, fi_alds, fi_tsw, List.getElem?_cons_zero, List.getElem?_cons_succ, List.set_cons_zero, List.set_cons_succ, List.length_cons, List.length_nil, Option.toList_some, Option.toList_none, List.cons_append, List.nil_append, Value.category, true_and, k_0, k_1, k_2, k_3, k_4, false_implies, true_implies, reduceCtorEq]
      exact ⟨σ', rfl, loC.tk f1, rfl, f2⟩
    · rw [if_pos (show tV b L k < lo ∨ hi < tV b L k from Or.inr (by split at w2 <;> omega))]
      obtain ⟨b1, b2, b3⟩ := fail (-12)
      refine ⟨b1, ⟨_, rfl⟩, b3.mono ?_⟩
      rintro r M' ⟨x, rfl, hx⟩
      simp only [fi_const, fi_iload, fi_aload, fi_istore, fi_astore, fi_iinc, fi_bin, fi_div, fi_un, fi_dup, fi_dup2, fi_pop, fi_if, fi_cmp, fi_getf, fi_putf, fi_putr, fi_ald, fi_ast, fi_alen, fi_iret, fi_zret, fi_vret, fi_cut, fi_no, fi_s0, fi_s1, fi_s2, fi_s3, fi_s4, fi_v0, fi_v1, fi_v2, fi_v3, fi_v4, fi_v5, fi_n0, fi_n1, fi_n2, fi_mm, fi_stat, fi_alds, fi_tsw, List.getElem?_cons_zero, List.getElem?_cons_succ, List.set_cons_zero, List.set_cons_succ, List.length_cons, List.length_nil, Option.toList_some, Option.toList_none, List.cons_append, List.nil_append, Value.category, true_and, k_0, k_1, k_2, k_3, k_4, false_implies, true_implies, reduceCtorEq]
      exact hx
  · rw [if_neg q]
    obtain ⟨b1, b2, b3⟩ := fail (-11)
    refine ⟨b1, ⟨_, rfl⟩, b3.mono ?_⟩
    rintro r M' ⟨x, rfl, hx⟩
    simp only [fi_const, fi_iload, fi_aload, fi_istore, fi_astore, fi_iinc, fi_bin, fi_div, fi_un, fi_dup, fi_dup2, fi_pop, fi_if, fi_cmp, fi_getf, fi_putf, fi_putr, fi_ald, fi_ast, fi_alen, fi_iret, fi_zret, fi_vret, fi_cut, fi_no, fi_s0, fi_s1, fi_s2, fi_s3, fi_s4, fi_v0, fi_v1, fi_v2, fi_v3, fi_v4, fi_v5, fi_n0, fi_n1, fi_n2, fi_mm, fi_stat, fi_alds, fi_tsw, List.getElem?_cons_zero, List.getElem?_cons_succ, List.set_cons_zero, List.set_cons_succ, List.length_cons, List.length_nil, Option.toList_some, Option.toList_none, List.cons_append, List.nil_append, Value.category, true_and, k_0, k_1, k_2, k_3, k_4, false_implies, true_implies, reduceCtorEq]
    exact hx
theorem c_takeSemi (hS : shL S) (h : LI σ b L Z k) : fs_Ct g m_X2_takeSemicolon [.ref 26] ((S, fr), σ, τ) (rdQ S fr τ σ b L (pSem b L (.inr (Z, k)))) := by
  obtain ⟨h1, h2, h3, h4, h5⟩ := id h
  have hk4 := tK_le b L k
  refine fs_enterC (by decide) (by simp [fs_ok]) (Nat.le_of_ble_eq_true rfl) (fun d => S_X2_takeSemicolon_0 ?_)
  show T_X2_takeSemicolon_0 g d _ [.ref 26] [] _
  simp only [T_X2_takeSemicolon_0, fi_const, fi_iload, fi_aload, fi_istore, fi_astore, fi_iinc, fi_bin, fi_div, fi_un, fi_dup, fi_dup2, fi_pop, fi_if, fi_cmp, fi_getf, fi_putf, fi_putr, fi_ald, fi_ast, fi_alen, fi_iret, fi_zret, fi_vret, fi_cut, fi_no, fi_s0, fi_s1, fi_s2, fi_s3, fi_s4, fi_v0, fi_v1, fi_v2, fi_v3, fi_v4, fi_v5, fi_n0, fi_n1, fi_n2, fi_mm, fi_stat, fi_alds, fi_tsw, List.getElem?_cons_zero, List.getElem?_cons_succ, List.set_cons_zero, List.set_cons_succ, List.length_cons, List.length_nil, Option.toList_some, Option.toList_none, List.cons_append, List.nil_append, Value.category, true_and, k_0, k_1, k_2, k_3, k_4, false_implies, true_implies, reduceCtorEq]
  simp only [fi_const, fi_iload, fi_aload, fi_istore, fi_astore, fi_iinc, fi_bin, fi_div, fi_un, fi_dup, fi_dup2, fi_pop, fi_if, fi_cmp, fi_getf, fi_putf, fi_putr, fi_ald, fi_ast, fi_alen, fi_iret, fi_zret, fi_vret, fi_cut, fi_no, fi_s0, fi_s1, fi_s2, fi_s3, fi_s4, fi_v0, fi_v1, fi_v2, fi_v3, fi_v4, fi_v5, fi_n0, fi_n1, fi_n2, fi_mm, fi_stat, fi_alds, fi_tsw, List.getElem?_cons_zero, List.getElem?_cons_succ, List.set_cons_zero, List.set_cons_succ, List.length_cons, List.length_nil, Option.toList_some, Option.toList_none, List.cons_append, List.nil_append, Value.category, true_and, k_0, k_1, k_2, k_3, k_4, false_implies, true_implies, reduceCtorEq, hS.1, hS.2.1, h3.1]
  unfold pSem
  simp only
  unfold eSem
  refine pk_eq (tK b L k) 3 (fun q => ?_) (fun q => ?_)
  · rw [if_pos q]
    refine ⟨by decide, ⟨_, rfl⟩, (c_adv hS h).mono ?_⟩
    rintro r M' ⟨rfl, σ', rfl, f1, f2⟩
    simp only [fi_const, fi_iload, fi_aload, fi_istore, fi_astore, fi_iinc, fi_bin, fi_div, fi_un, fi_dup, fi_dup2, fi_pop, fi_if, fi_cmp, fi_getf, fi_putf, fi_putr, fi_ald, fi_ast, fi_alen, fi_iret, fi_zret, fi_vret, fi_cut, fi_no, fi_s0, fi_s1, fi_s2, fi_s3, fi_s4, fi_v0, fi_v1, fi_v2, fi_v3, fi_v4, fi_v5, fi_n0, fi_n1, fi_n2, fi_mm, fi_stat, fi_alds, fi_tsw, List.getElem?_cons_zero, List.getElem?_cons_succ, List.set_cons_zero, List.set_cons_succ, List.length_cons, List.length_nil, Option.toList_some, Option.toList_none, List.cons_append, List.nil_append, Value.category, true_and, k_0, k_1, k_2, k_3, k_4, false_implies, true_implies, reduceCtorEq]
    exact ⟨Or.inr trivial, σ', rfl, loC.tk f1, rfl, f2⟩
  · rw [if_neg q]
    refine ⟨by decide, ⟨_, rfl⟩, (c_fail hS h3.2.1 (-11)).mono ?_⟩
    rintro r M' ⟨rfl, σ', rfl, f1, f2⟩
    simp only [fi_const, fi_iload, fi_aload, fi_istore, fi_astore, fi_iinc, fi_bin, fi_div, fi_un, fi_dup, fi_dup2, fi_pop, fi_if, fi_cmp, fi_getf, fi_putf, fi_putr, fi_ald, fi_ast, fi_alen, fi_iret, fi_zret, fi_vret, fi_cut, fi_no, fi_s0, fi_s1, fi_s2, fi_s3, fi_s4, fi_v0, fi_v1, fi_v2, fi_v3, fi_v4, fi_v5, fi_n0, fi_n1, fi_n2, fi_mm, fi_stat, fi_alds, fi_tsw, List.getElem?_cons_zero, List.getElem?_cons_succ, List.set_cons_zero, List.set_cons_succ, List.length_cons, List.length_nil, Option.toList_some, Option.toList_none, List.cons_append, List.nil_append, Value.category, true_and, k_0, k_1, k_2, k_3, k_4, false_implies, true_implies, reduceCtorEq]
    exact ⟨Or.inl trivial, σ', rfl, f1, rfl, f2⟩
end PL1
