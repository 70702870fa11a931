/-! ===== words and names of the class ===== -/
theorem sr_asc : ∀ q ∈ fs_sr, q.2.2.2.1.length < 100 ∧ ∀ j, j < q.2.2.2.1.length → ∃ c, c < 128 ∧ q.2.2.2.1.getD j 0 = nI c := by decide +kernel
section PT2
variable {g : fs_G} {d : Nat} {S : List fs_Sh} {fr : Bool} {σ : Nat → Nat → Int32} {τ : Nat → Nat → Int64} {b : Nat → Nat} {L : Nat}
theorem l_isWord (hS : shL S) (hT : TX σ b L) {k : Nat} (hk : k ≤ L) (hI : TI σ b L k) {q : String × Nat × String × List Int32 × Nat} (hq : q ∈ fs_sr) (he : tE b L k = tS b L k + q.2.2.2.1.length) : ∀ n i, i + n = q.2.2.2.1.length → (∀ j, j < i → nI (b (tS b L k + j)) = q.2.2.2.1.getD j 0) → fs_R g m_X6_isWord d (0, 0) 28 [.ref 45, .ref (10000 + (100 + q.2.2.2.2)), .int (nI i)] [] ((S, fr), σ, τ) (fun r M' => r = some (.int (bI (eqW b (tS b L k) (tE b L k) q.2.2.2.1))) ∧ ((S, fr), σ, τ) = M')
  | 0, i, hi, h => by
    obtain ⟨h100, -⟩ := sr_asc q hq
    refine S_X6_isWord_28 ?_
    simp only [T_X6_isWord_28, fi_const, fi_iload, fi_aload, fi_istore, fi_astore, fi_iinc, fi_bin, fi_div, fi_un, fi_dup, fi_dup2, fi_pop, fi_if, fi_cmp, fi_getf, fi_putf, fi_putr, fi_ald, fi_ast, fi_alen, fi_iret, fi_zret, fi_vret, fi_cut, fi_no, fi_s0, fi_s1, fi_s2, fi_s3, fi_s4, fi_v0, fi_v1, fi_v2, fi_v3, fi_v4, fi_v5, fi_n0, fi_n1, fi_n2, fi_mm, fi_stat, fi_alds, fi_tsw, List.getElem?_cons_zero, List.getElem?_cons_succ, List.set_cons_zero, List.set_cons_succ, List.length_cons, List.length_nil, Option.toList_some, Option.toList_none, List.cons_append, List.nil_append, Value.category, true_and, k_0, k_1, k_2, k_3, k_4, false_implies, true_implies, reduceCtorEq, fi_slen, fi_sch]
    refine ⟨by decide, q, hq, rfl, pk_le q.2.2.2.1.length i (fun _ => ⟨Or.inr trivial, ?_, trivial⟩) (fun z => by omega)⟩
    have : eqW b (tS b L k) (tE b L k) q.2.2.2.1 = true := decide_eq_true ⟨he, fun j hj => h j (by omega)⟩
    rw [this]; rfl
  | n + 1, i, hi, h => by
    obtain ⟨h100, hasc⟩ := sr_asc q hq
    obtain ⟨c, hc, ec⟩ := hasc i (by omega)
    obtain ⟨-, hL, hb⟩ := id hT
    have hE := (tE_le (b := b) hk).2.1
    obtain ⟨hb1, hb2⟩ := hb (tS b L k + i) (by omega)
    have h1 := hI.2.1
    have i9 : vp_in (nI (tS b L k + i)) 900 := vp_in_nI (by omega) (by decide)
    refine S_X6_isWord_28 ?_
    simp only [T_X6_isWord_28, fi_const, fi_iload, fi_aload, fi_istore, fi_astore, fi_iinc, fi_bin, fi_div, fi_un, fi_dup, fi_dup2, fi_pop, fi_if, fi_cmp, fi_getf, fi_putf, fi_putr, fi_ald, fi_ast, fi_alen, fi_iret, fi_zret, fi_vret, fi_cut, fi_no, fi_s0, fi_s1, fi_s2, fi_s3, fi_s4, fi_v0, fi_v1, fi_v2, fi_v3, fi_v4, fi_v5, fi_n0, fi_n1, fi_n2, fi_mm, fi_stat, fi_alds, fi_tsw, List.getElem?_cons_zero, List.getElem?_cons_succ, List.set_cons_zero, List.set_cons_succ, List.length_cons, List.length_nil, Option.toList_some, Option.toList_none, List.cons_append, List.nil_append, Value.category, true_and, k_0, k_1, k_2, k_3, k_4, false_implies, true_implies, reduceCtorEq, fi_slen, fi_sch, hS.2.1, h1, nI_add, hS.2.2.1, i9, nI_clamp (show tS b L k + i < 2 ^ 31 by omega), hb2, nI_1]
    refine ⟨by decide, q, hq, rfl, pk_le q.2.2.2.1.length i (fun z => by omega) (fun _ => ⟨Nat.le_of_ble_eq_true rfl, q, hq, rfl, i, by omega, rfl, ?_⟩)⟩
    rw [ec]
    have s : sB (b (tS b L k + i)) = nI c ↔ b (tS b L k + i) = c := sB_eq hb1 hc
    refine ⟨fun w => ?_, fun w => ⟨Or.inl trivial, ?_, trivial⟩⟩
    · refine l_isWord hS hT hk hI hq he n (i + 1) (by omega) (fun j hj => ?_)
      by_cases z : j = i
      · rw [z, ec, s.mp w]
      · exact h j (by omega)
    · have : eqW b (tS b L k) (tE b L k) q.2.2.2.1 = false := decide_eq_false (fun z => w (s.mpr ((nI_eq (by omega) (by omega)).mp ((z.2 i (by omega)).trans ec))))
      rw [this]; rfl
theorem c_isWord (hS : shL S) (hT : TX σ b L) {k : Nat} (hk : k ≤ L) (hI : TI σ b L k) {q : String × Nat × String × List Int32 × Nat} (hq : q ∈ fs_sr) : fs_Ct g m_X6_isWord [.ref 45, .ref (10000 + (100 + q.2.2.2.2))] ((S, fr), σ, τ) (fun r M' => r = some (.int (bI (decide (tK b L k = 1) && eqW b (tS b L k) (tE b L k) q.2.2.2.1))) ∧ ((S, fr), σ, τ) = M') := by
  obtain ⟨h100, -⟩ := sr_asc q hq
  obtain ⟨h0, h1, h5, -⟩ := id hI
  have hE := tE_le (b := b) hk
  have hL := hT.2.1
  have hk4 := tK_le b L k
  refine fs_enterC (by decide) (by simp [fs_ok]) (Nat.le_of_ble_eq_true rfl) (fun d => S_X6_isWord_0 ?_)
  show T_X6_isWord_0 g d _ [.ref 45, .ref (10000 + (100 + q.2.2.2.2)), .null] [] _
  simp only [T_X6_isWord_0, fi_const, fi_iload, fi_aload, fi_istore, fi_astore, fi_iinc, fi_bin, fi_div, fi_un, fi_dup, fi_dup2, fi_pop, fi_if, fi_cmp, fi_getf, fi_putf, fi_putr, fi_ald, fi_ast, fi_alen, fi_iret, fi_zret, fi_vret, fi_cut, fi_no, fi_s0, fi_s1, fi_s2, fi_s3, fi_s4, fi_v0, fi_v1, fi_v2, fi_v3, fi_v4, fi_v5, fi_n0, fi_n1, fi_n2, fi_mm, fi_stat, fi_alds, fi_tsw, List.getElem?_cons_zero, List.getElem?_cons_succ, List.set_cons_zero, List.set_cons_succ, List.length_cons, List.length_nil, Option.toList_some, Option.toList_none, List.cons_append, List.nil_append, Value.category, true_and, k_0, k_1, k_2, k_3, k_4, false_implies, true_implies, reduceCtorEq]
  simp only [fi_const, fi_iload, fi_aload, fi_istore, fi_astore, fi_iinc, fi_bin, fi_div, fi_un, fi_dup, fi_dup2, fi_pop, fi_if, fi_cmp, fi_getf, fi_putf, fi_putr, fi_ald, fi_ast, fi_alen, fi_iret, fi_zret, fi_vret, fi_cut, fi_no, fi_s0, fi_s1, fi_s2, fi_s3, fi_s4, fi_v0, fi_v1, fi_v2, fi_v3, fi_v4, fi_v5, fi_n0, fi_n1, fi_n2, fi_mm, fi_stat, fi_alds, fi_tsw, List.getElem?_cons_zero, List.getElem?_cons_succ, List.set_cons_zero, List.set_cons_succ, List.length_cons, List.length_nil, Option.toList_some, Option.toList_none, List.cons_append, List.nil_append, Value.category, true_and, k_0, k_1, k_2, k_3, k_4, false_implies, true_implies, reduceCtorEq, hS.2.1, h0, h1, h5, fi_slen, pk_sub hE.1]
  refine pk_eq (tK b L k) 1 (fun w => ⟨by decide, q, hq, rfl, pk_eq (tE b L k - tS b L k) q.2.2.2.1.length (fun w2 => ?_) (fun w2 => ?_)⟩) (fun w => ?_)
  · rw [decide_eq_true w, Bool.true_and]
    exact l_isWord hS hT hk hI hq (by omega) q.2.2.2.1.length 0 (by omega) (fun j hj => by omega)
  · have : eqW b (tS b L k) (tE b L k) q.2.2.2.1 = false := decide_eq_false (fun z => w2 (by omega))
    rw [this, Bool.and_false]
    exact ⟨Or.inl trivial, rfl, trivial⟩
  · rw [decide_eq_false w, Bool.false_and]
    exact ⟨Or.inl trivial, rfl, trivial⟩
/-- a constant that is word i -/
theorem c_isW (hS : shL S) (hT : TX σ b L) {k : Nat} (hk : k ≤ L) (hI : TI σ b L k) {q : String × Nat × String × List Int32 × Nat} (hq : q ∈ fs_sr) {i : Nat} (hi : i < 12) (e : q.2.2.2.1 = wl i) : fs_Ct g m_X6_isWord [.ref 45, .ref (10000 + (100 + q.2.2.2.2))] ((S, fr), σ, τ) (fun r M' => r = some (.int (bI (decide (tW b L k = nI i)))) ∧ ((S, fr), σ, τ) = M') := by
  refine (c_isWord hS hT hk hI hq).mono ?_
  rintro r M' ⟨rfl, rfl⟩
  refine ⟨?_, rfl⟩
  rw [e]
  congr 3
  rw [Bool.eq_iff_iff]
  simp only [Bool.and_eq_true, decide_eq_true_eq]
  exact (tW_iff hi).symm
theorem isNm_res {k : Nat} (hk : k ≤ L) (h1 : tK b L k = 1) (h6 : tE b L k - tS b L k ≤ 6) : tW b L k = -1 ↔ ¬ (tW b L k = nI 1 ∨ tW b L k = nI 2 ∨ tW b L k = nI 3 ∨ tW b L k = nI 4 ∨ tW b L k = nI 5 ∨ tW b L k = nI 6 ∨ tW b L k = nI 7 ∨ tW b L k = nI 9 ∨ tW b L k = nI 10 ∨ tW b L k = nI 11) := by
  have no8 : ∀ i, i < 12 → (wl i).length = 8 → ¬ tW b L k = nI i := by
    intro i hi h8 z
    have := of_decide_eq_true ((tW_iff hi).mp z).2
    omega
  constructor
  · intro z w
    rw [z] at w
    rcases w with w | w | w | w | w | w | w | w | w | w <;> exact absurd w (by decide)
  · intro z
    rcases tW_or b L k with w | ⟨i, hi, w⟩
    · exact w
    · exfalso
      have n0 := no8 0 (by decide) rfl
      have n8 := no8 8 (by decide) rfl
      have : i = 0 ∨ i = 1 ∨ i = 2 ∨ i = 3 ∨ i = 4 ∨ i = 5 ∨ i = 6 ∨ i = 7 ∨ i = 8 ∨ i = 9 ∨ i = 10 ∨ i = 11 := by omega
      rcases this with rfl | rfl | rfl | rfl | rfl | rfl | rfl | rfl | rfl | rfl | rfl | rfl
      · exact n0 w
      · exact z (Or.inl w)
      · exact z (Or.inr (Or.inl w))
      · exact z (Or.inr (Or.inr (Or.inl w)))
      · exact z (Or.inr (Or.inr (Or.inr (Or.inl w))))
      · exact z (Or.inr (Or.inr (Or.inr (Or.inr (Or.inl w)))))
      · exact z (Or.inr (Or.inr (Or.inr (Or.inr (Or.inr (Or.inl w))))))
      · exact z (Or.inr (Or.inr (Or.inr (Or.inr (Or.inr (Or.inr (Or.inl w)))))))
      · exact n8 w
      · exact z (Or.inr (Or.inr (Or.inr (Or.inr (Or.inr (Or.inr (Or.inr (Or.inl w))))))))
      · exact z (Or.inr (Or.inr (Or.inr (Or.inr (Or.inr (Or.inr (Or.inr (Or.inr (Or.inl w)))))))))
      · exact z (Or.inr (Or.inr (Or.inr (Or.inr (Or.inr (Or.inr (Or.inr (Or.inr (Or.inr w)))))))))
theorem c_isName (hS : shL S) (hT : TX σ b L) {k : Nat} (hk : k ≤ L) (hI : TI σ b L k) : fs_Ct g m_X6_isName [.ref 45] ((S, fr), σ, τ) (fun r M' => r = some (.int (bI (isNm b L k))) ∧ ((S, fr), σ, τ) = M') := by
  obtain ⟨h0, h1, h5, -⟩ := id hI
  have hE := tE_le (b := b) hk
  have hL := hT.2.1
  have hk4 := tK_le b L k
  have go : ∀ (d : Nat) (x : Int32), (x = 0 ∨ x = 1) → (tK b L k = 1 → tE b L k - tS b L k ≤ 6 → (x = 0 ↔ tW b L k = -1)) → fs_R g m_X6_isName d (0, 0) 95 [.ref 45, .null] [.int x] ((S, fr), σ, τ) (fun r M' => r = some (.int (bI (isNm b L k))) ∧ ((S, fr), σ, τ) = M') := by
    intro d x hx hr
    refine S_X6_isName_95 ?_
    simp only [T_X6_isName_95, fi_const, fi_iload, fi_aload, fi_istore, fi_astore, fi_iinc, fi_bin, fi_div, fi_un, fi_dup, fi_dup2, fi_pop, fi_if, fi_cmp, fi_getf, fi_putf, fi_putr, fi_ald, fi_ast, fi_alen, fi_iret, fi_zret, fi_vret, fi_cut, fi_no, fi_s0, fi_s1, fi_s2, fi_s3, fi_s4, fi_v0, fi_v1, fi_v2, fi_v3, fi_v4, fi_v5, fi_n0, fi_n1, fi_n2, fi_mm, fi_stat, fi_alds, fi_tsw, List.getElem?_cons_zero, List.getElem?_cons_succ, List.set_cons_zero, List.set_cons_succ, List.length_cons, List.length_nil, Option.toList_some, Option.toList_none, List.cons_append, List.nil_append, Value.category, true_and, k_0, k_1, k_2, k_3, k_4, false_implies, true_implies, reduceCtorEq, hS.2.1, h0, h1, h5, pk_sub hE.1]
    unfold isNm
    refine pk_eq (tK b L k) 1 (fun w => pk_lt 6 (tE b L k - tS b L k) (fun w2 => ⟨Or.inl trivial, ?_, trivial⟩) (fun w2 => ⟨fun w3 => ⟨Or.inr trivial, ?_, trivial⟩, fun w3 => ⟨Or.inl trivial, ?_, trivial⟩⟩)) (fun w => ⟨Or.inl trivial, ?_, trivial⟩)
    · rw [decide_eq_false (show ¬ tE b L k - tS b L k ≤ 6 by omega), Bool.and_false, Bool.false_and]; rfl
    · rw [decide_eq_true w, decide_eq_true w2, decide_eq_true ((hr w w2).mp w3)]; rfl
    · rw [decide_eq_true w, decide_eq_true w2, decide_eq_false (fun z => w3 ((hr w w2).mpr z))]; rfl
    · rw [decide_eq_false w, Bool.false_and, Bool.false_and]; rfl
  have go1 : ∀ d, (tW b L k = nI 1 ∨ tW b L k = nI 2 ∨ tW b L k = nI 3 ∨ tW b L k = nI 4 ∨ tW b L k = nI 5 ∨ tW b L k = nI 6 ∨ tW b L k = nI 7 ∨ tW b L k = nI 9 ∨ tW b L k = nI 10 ∨ tW b L k = nI 11) → fs_R g m_X6_isName d (0, 0) 95 [.ref 45, .null] [.int 1] ((S, fr), σ, τ) (fun r M' => r = some (.int (bI (isNm b L k))) ∧ ((S, fr), σ, τ) = M') := fun d z => go d 1 (Or.inr rfl) (fun w w2 => ⟨fun v => absurd v (by decide), fun v => absurd z ((isNm_res hk w w2).mp v)⟩)
  refine fs_enterC (by decide) (by simp [fs_ok]) (Nat.le_of_ble_eq_true rfl) (fun d => S_X6_isName_0 ?_)
  show T_X6_isName_0 g d _ [.ref 45, .null] [] _
  simp only [T_X6_isName_0, fi_const, fi_iload, fi_aload, fi_istore, fi_astore, fi_iinc, fi_bin, fi_div, fi_un, fi_dup, fi_dup2, fi_pop, fi_if, fi_cmp, fi_getf, fi_putf, fi_putr, fi_ald, fi_ast, fi_alen, fi_iret, fi_zret, fi_vret, fi_cut, fi_no, fi_s0, fi_s1, fi_s2, fi_s3, fi_s4, fi_v0, fi_v1, fi_v2, fi_v3, fi_v4, fi_v5, fi_n0, fi_n1, fi_n2, fi_mm, fi_stat, fi_alds, fi_tsw, List.getElem?_cons_zero, List.getElem?_cons_succ, List.set_cons_zero, List.set_cons_succ, List.length_cons, List.length_nil, Option.toList_some, Option.toList_none, List.cons_append, List.nil_append, Value.category, true_and, k_0, k_1, k_2, k_3, k_4, false_implies, true_implies, reduceCtorEq]
  simp only [fi_const, fi_iload, fi_aload, fi_istore, fi_astore, fi_iinc, fi_bin, fi_div, fi_un, fi_dup, fi_dup2, fi_pop, fi_if, fi_cmp, fi_getf, fi_putf, fi_putr, fi_ald, fi_ast, fi_alen, fi_iret, fi_zret, fi_vret, fi_cut, fi_no, fi_s0, fi_s1, fi_s2, fi_s3, fi_s4, fi_v0, fi_v1, fi_v2, fi_v3, fi_v4, fi_v5, fi_n0, fi_n1, fi_n2, fi_mm, fi_stat, fi_alds, fi_tsw, List.getElem?_cons_zero, List.getElem?_cons_succ, List.set_cons_zero, List.set_cons_succ, List.length_cons, List.length_nil, Option.toList_some, Option.toList_none, List.cons_append, List.nil_append, Value.category, true_and, k_0, k_1, k_2, k_3, k_4, false_implies, true_implies, reduceCtorEq, hS.2.1]
  refine ⟨by decide, ⟨_, rfl⟩, (c_isW hS hT hk hI sr_1 (i := 1) (by decide) rfl).mono ?_⟩
  rintro r M' ⟨rfl, rfl⟩
  simp only [fi_const, fi_iload, fi_aload, fi_istore, fi_astore, fi_iinc, fi_bin, fi_div, fi_un, fi_dup, fi_dup2, fi_pop, fi_if, fi_cmp, fi_getf, fi_putf, fi_putr, fi_ald, fi_ast, fi_alen, fi_iret, fi_zret, fi_vret, fi_cut, fi_no, fi_s0, fi_s1, fi_s2, fi_s3, fi_s4, fi_v0, fi_v1, fi_v2, fi_v3, fi_v4, fi_v5, fi_n0, fi_n1, fi_n2, fi_mm, fi_stat, fi_alds, fi_tsw, List.getElem?_cons_zero, List.getElem?_cons_succ, List.set_cons_zero, List.set_cons_succ, List.length_cons, List.length_nil, Option.toList_some, Option.toList_none, List.cons_append, List.nil_append, Value.category, true_and, k_0, k_1, k_2, k_3, k_4, false_implies, true_implies, reduceCtorEq, bI_eq0, decide_eq_false_iff_not, hS.2.1]
  refine ⟨fun z1 => ⟨by decide, ⟨_, rfl⟩, (c_isW hS hT hk hI sr_2 (i := 2) (by decide) rfl).mono ?_⟩, fun z => go1 d (Or.inl (Decidable.byContradiction z))⟩
  rintro r M' ⟨rfl, rfl⟩
  simp only [fi_const, fi_iload, fi_aload, fi_istore, fi_astore, fi_iinc, fi_bin, fi_div, fi_un, fi_dup, fi_dup2, fi_pop, fi_if, fi_cmp, fi_getf, fi_putf, fi_putr, fi_ald, fi_ast, fi_alen, fi_iret, fi_zret, fi_vret, fi_cut, fi_no, fi_s0, fi_s1, fi_s2, fi_s3, fi_s4, fi_v0, fi_v1, fi_v2, fi_v3, fi_v4, fi_v5, fi_n0, fi_n1, fi_n2, fi_mm, fi_stat, fi_alds, fi_tsw, List.getElem?_cons_zero, List.getElem?_cons_succ, List.set_cons_zero, List.set_cons_succ, List.length_cons, List.length_nil, Option.toList_some, Option.toList_none, List.cons_append, List.nil_append, Value.category, true_and, k_0, k_1, k_2, k_3, k_4, false_implies, true_implies, reduceCtorEq, bI_eq0, decide_eq_false_iff_not, hS.2.1]
  refine ⟨fun z2 => ⟨by decide, ⟨_, rfl⟩, (c_isW hS hT hk hI sr_3 (i := 3) (by decide) rfl).mono ?_⟩, fun z => go1 d (Or.inr (Or.inl (Decidable.byContradiction z)))⟩
  rintro r M' ⟨rfl, rfl⟩
  simp only [fi_const, fi_iload, fi_aload, fi_istore, fi_astore, fi_iinc, fi_bin, fi_div, fi_un, fi_dup, fi_dup2, fi_pop, fi_if, fi_cmp, fi_getf, fi_putf, fi_putr, fi_ald, fi_ast, fi_alen, fi_iret, fi_zret, fi_vret, fi_cut, fi_no, fi_s0, fi_s1, fi_s2, fi_s3, fi_s4, fi_v0, fi_v1, fi_v2, fi_v3, fi_v4, fi_v5, fi_n0, fi_n1, fi_n2, fi_mm, fi_stat, fi_alds, fi_tsw, List.getElem?_cons_zero, List.getElem?_cons_succ, List.set_cons_zero, List.set_cons_succ, List.length_cons, List.length_nil, Option.toList_some, Option.toList_none, List.cons_append, List.nil_append, Value.category, true_and, k_0, k_1, k_2, k_3, k_4, false_implies, true_implies, reduceCtorEq, bI_eq0, decide_eq_false_iff_not, hS.2.1]
  refine ⟨fun z3 => ⟨by decide, ⟨_, rfl⟩, (c_isW hS hT hk hI sr_4 (i := 4) (by decide) rfl).mono ?_⟩, fun z => go1 d (Or.inr (Or.inr (Or.inl (Decidable.byContradiction z))))⟩
  rintro r M' ⟨rfl, rfl⟩
  simp only [fi_const, fi_iload, fi_aload, fi_istore, fi_astore, fi_iinc, fi_bin, fi_div, fi_un, fi_dup, fi_dup2, fi_pop, fi_if, fi_cmp, fi_getf, fi_putf, fi_putr, fi_ald, fi_ast, fi_alen, fi_iret, fi_zret, fi_vret, fi_cut, fi_no, fi_s0, fi_s1, fi_s2, fi_s3, fi_s4, fi_v0, fi_v1, fi_v2, fi_v3, fi_v4, fi_v5, fi_n0, fi_n1, fi_n2, fi_mm, fi_stat, fi_alds, fi_tsw, List.getElem?_cons_zero, List.getElem?_cons_succ, List.set_cons_zero, List.set_cons_succ, List.length_cons, List.length_nil, Option.toList_some, Option.toList_none, List.cons_append, List.nil_append, Value.category, true_and, k_0, k_1, k_2, k_3, k_4, false_implies, true_implies, reduceCtorEq, bI_eq0, decide_eq_false_iff_not, hS.2.1]
  refine ⟨fun z4 => ⟨by decide, ⟨_, rfl⟩, (c_isW hS hT hk hI sr_5 (i := 5) (by decide) rfl).mono ?_⟩, fun z => go1 d (Or.inr (Or.inr (Or.inr (Or.inl (Decidable.byContradiction z)))))⟩
  rintro r M' ⟨rfl, rfl⟩
  simp only [fi_const, fi_iload, fi_aload, fi_istore, fi_astore, fi_iinc, fi_bin, fi_div, fi_un, fi_dup, fi_dup2, fi_pop, fi_if, fi_cmp, fi_getf, fi_putf, fi_putr, fi_ald, fi_ast, fi_alen, fi_iret, fi_zret, fi_vret, fi_cut, fi_no, fi_s0, fi_s1, fi_s2, fi_s3, fi_s4, fi_v0, fi_v1, fi_v2, fi_v3, fi_v4, fi_v5, fi_n0, fi_n1, fi_n2, fi_mm, fi_stat, fi_alds, fi_tsw, List.getElem?_cons_zero, List.getElem?_cons_succ, List.set_cons_zero, List.set_cons_succ, List.length_cons, List.length_nil, Option.toList_some, Option.toList_none, List.cons_append, List.nil_append, Value.category, true_and, k_0, k_1, k_2, k_3, k_4, false_implies, true_implies, reduceCtorEq, bI_eq0, decide_eq_false_iff_not, hS.2.1]
  refine ⟨fun z5 => ⟨by decide, ⟨_, rfl⟩, (c_isW hS hT hk hI sr_6 (i := 6) (by decide) rfl).mono ?_⟩, fun z => go1 d (Or.inr (Or.inr (Or.inr (Or.inr (Or.inl (Decidable.byContradiction z))))))⟩
  rintro r M' ⟨rfl, rfl⟩
  simp only [fi_const, fi_iload, fi_aload, fi_istore, fi_astore, fi_iinc, fi_bin, fi_div, fi_un, fi_dup, fi_dup2, fi_pop, fi_if, fi_cmp, fi_getf, fi_putf, fi_putr, fi_ald, fi_ast, fi_alen, fi_iret, fi_zret, fi_vret, fi_cut, fi_no, fi_s0, fi_s1, fi_s2, fi_s3, fi_s4, fi_v0, fi_v1, fi_v2, fi_v3, fi_v4, fi_v5, fi_n0, fi_n1, fi_n2, fi_mm, fi_stat, fi_alds, fi_tsw, List.getElem?_cons_zero, List.getElem?_cons_succ, List.set_cons_zero, List.set_cons_succ, List.length_cons, List.length_nil, Option.toList_some, Option.toList_none, List.cons_append, List.nil_append, Value.category, true_and, k_0, k_1, k_2, k_3, k_4, false_implies, true_implies, reduceCtorEq, bI_eq0, decide_eq_false_iff_not, hS.2.1]
  refine ⟨fun z6 => ⟨by decide, ⟨_, rfl⟩, (c_isW hS hT hk hI sr_7 (i := 7) (by decide) rfl).mono ?_⟩, fun z => go1 d (Or.inr (Or.inr (Or.inr (Or.inr (Or.inr (Or.inl (Decidable.byContradiction z)))))))⟩
  rintro r M' ⟨rfl, rfl⟩
  simp only [fi_const, fi_iload, fi_aload, fi_istore, fi_astore, fi_iinc, fi_bin, fi_div, fi_un, fi_dup, fi_dup2, fi_pop, fi_if, fi_cmp, fi_getf, fi_putf, fi_putr, fi_ald, fi_ast, fi_alen, fi_iret, fi_zret, fi_vret, fi_cut, fi_no, fi_s0, fi_s1, fi_s2, fi_s3, fi_s4, fi_v0, fi_v1, fi_v2, fi_v3, fi_v4, fi_v5, fi_n0, fi_n1, fi_n2, fi_mm, fi_stat, fi_alds, fi_tsw, List.getElem?_cons_zero, List.getElem?_cons_succ, List.set_cons_zero, List.set_cons_succ, List.length_cons, List.length_nil, Option.toList_some, Option.toList_none, List.cons_append, List.nil_append, Value.category, true_and, k_0, k_1, k_2, k_3, k_4, false_implies, true_implies, reduceCtorEq, bI_eq0, decide_eq_false_iff_not, hS.2.1]
  refine ⟨fun z7 => ⟨by decide, ⟨_, rfl⟩, (c_isW hS hT hk hI sr_8 (i := 9) (by decide) rfl).mono ?_⟩, fun z => go1 d (Or.inr (Or.inr (Or.inr (Or.inr (Or.inr (Or.inr (Or.inl (Decidable.byContradiction z))))))))⟩
  rintro r M' ⟨rfl, rfl⟩
  simp only [fi_const, fi_iload, fi_aload, fi_istore, fi_astore, fi_iinc, fi_bin, fi_div, fi_un, fi_dup, fi_dup2, fi_pop, fi_if, fi_cmp, fi_getf, fi_putf, fi_putr, fi_ald, fi_ast, fi_alen, fi_iret, fi_zret, fi_vret, fi_cut, fi_no, fi_s0, fi_s1, fi_s2, fi_s3, fi_s4, fi_v0, fi_v1, fi_v2, fi_v3, fi_v4, fi_v5, fi_n0, fi_n1, fi_n2, fi_mm, fi_stat, fi_alds, fi_tsw, List.getElem?_cons_zero, List.getElem?_cons_succ, List.set_cons_zero, List.set_cons_succ, List.length_cons, List.length_nil, Option.toList_some, Option.toList_none, List.cons_append, List.nil_append, Value.category, true_and, k_0, k_1, k_2, k_3, k_4, false_implies, true_implies, reduceCtorEq, bI_eq0, decide_eq_false_iff_not, hS.2.1]
  refine ⟨fun z8 => ⟨by decide, ⟨_, rfl⟩, (c_isW hS hT hk hI sr_9 (i := 10) (by decide) rfl).mono ?_⟩, fun z => go1 d (Or.inr (Or.inr (Or.inr (Or.inr (Or.inr (Or.inr (Or.inr (Or.inl (Decidable.byContradiction z)))))))))⟩
  rintro r M' ⟨rfl, rfl⟩
  simp only [fi_const, fi_iload, fi_aload, fi_istore, fi_astore, fi_iinc, fi_bin, fi_div, fi_un, fi_dup, fi_dup2, fi_pop, fi_if, fi_cmp, fi_getf, fi_putf, fi_putr, fi_ald, fi_ast, fi_alen, fi_iret, fi_zret, fi_vret, fi_cut, fi_no, fi_s0, fi_s1, fi_s2, fi_s3, fi_s4, fi_v0, fi_v1, fi_v2, fi_v3, fi_v4, fi_v5, fi_n0, fi_n1, fi_n2, fi_mm, fi_stat, fi_alds, fi_tsw, List.getElem?_cons_zero, List.getElem?_cons_succ, List.set_cons_zero, List.set_cons_succ, List.length_cons, List.length_nil, Option.toList_some, Option.toList_none, List.cons_append, List.nil_append, Value.category, true_and, k_0, k_1, k_2, k_3, k_4, false_implies, true_implies, reduceCtorEq, bI_eq0, decide_eq_false_iff_not, hS.2.1]
  refine ⟨fun z9 => ⟨by decide, ⟨_, rfl⟩, (c_isW hS hT hk hI sr_10 (i := 11) (by decide) rfl).mono ?_⟩, fun z => go1 d (Or.inr (Or.inr (Or.inr (Or.inr (Or.inr (Or.inr (Or.inr (Or.inr (Or.inl (Decidable.byContradiction z))))))))))⟩
  rintro r M' ⟨rfl, rfl⟩
  simp only [fi_const, fi_iload, fi_aload, fi_istore, fi_astore, fi_iinc, fi_bin, fi_div, fi_un, fi_dup, fi_dup2, fi_pop, fi_if, fi_cmp, fi_getf, fi_putf, fi_putr, fi_ald, fi_ast, fi_alen, fi_iret, fi_zret, fi_vret, fi_cut, fi_no, fi_s0, fi_s1, fi_s2, fi_s3, fi_s4, fi_v0, fi_v1, fi_v2, fi_v3, fi_v4, fi_v5, fi_n0, fi_n1, fi_n2, fi_mm, fi_stat, fi_alds, fi_tsw, List.getElem?_cons_zero, List.getElem?_cons_succ, List.set_cons_zero, List.set_cons_succ, List.length_cons, List.length_nil, Option.toList_some, Option.toList_none, List.cons_append, List.nil_append, Value.category, true_and, k_0, k_1, k_2, k_3, k_4, false_implies, true_implies, reduceCtorEq, bI_eq0, decide_eq_false_iff_not, hS.2.1]
  refine ⟨fun z10 => go d 0 (Or.inl rfl) (fun w w2 => ⟨fun _ => (isNm_res hk w w2).mpr (fun v => ?_), fun _ => rfl⟩), fun z => go1 d (Or.inr (Or.inr (Or.inr (Or.inr (Or.inr (Or.inr (Or.inr (Or.inr (Or.inr (Decidable.byContradiction z))))))))))⟩
  rcases v with v | v | v | v | v | v | v | v | v | v
  · exact z1 v
  · exact z2 v
  · exact z3 v
  · exact z4 v
  · exact z5 v
  · exact z6 v
  · exact z7 v
  · exact z8 v
  · exact z9 v
  · exact z10 v
theorem l_letters (hS : shL S) (hT : TX σ b L) {k : Nat} (hk : k ≤ L) (hI : TI σ b L k) (hw : tK b L k = 1) : ∀ n i x z, i + n = 6 → fs_R g m_X6_nameLetters d (0, 0) 4 [.ref 45, .int x, .int (nI i), z] [] ((S, fr), σ, τ) (fun r M' => r = some (.int (nmG b (tS b L k) (tE b L k) n i x)) ∧ ((S, fr), σ, τ) = M')
  | 0, i, x, z, hi => by
    refine S_X6_nameLetters_4 ?_
    simp only [T_X6_nameLetters_4, fi_const, fi_iload, fi_aload, fi_istore, fi_astore, fi_iinc, fi_bin, fi_div, fi_un, fi_dup, fi_dup2, fi_pop, fi_if, fi_cmp, fi_getf, fi_putf, fi_putr, fi_ald, fi_ast, fi_alen, fi_iret, fi_zret, fi_vret, fi_cut, fi_no, fi_s0, fi_s1, fi_s2, fi_s3, fi_s4, fi_v0, fi_v1, fi_v2, fi_v3, fi_v4, fi_v5, fi_n0, fi_n1, fi_n2, fi_mm, fi_stat, fi_alds, fi_tsw, List.getElem?_cons_zero, List.getElem?_cons_succ, List.set_cons_zero, List.set_cons_succ, List.length_cons, List.length_nil, Option.toList_some, Option.toList_none, List.cons_append, List.nil_append, Value.category, true_and, k_0, k_1, k_2, k_3, k_4, false_implies, true_implies, reduceCtorEq]
    refine pk_le 6 i (fun _ => ?_) (fun z => by omega)
    exact ⟨rfl, trivial⟩
  | n + 1, i, x, z, hi => by
    obtain ⟨h0, h1, h5, -⟩ := id hI
    obtain ⟨-, hL, hb⟩ := id hT
    have hE := tE_le (b := b) hk
    have go : ∀ y, fs_R g m_X6_nameLetters d (0, 0) 43 [.ref 45, .int x, .int (nI i), z] [.int y] ((S, fr), σ, τ) (fun r M' => r = some (.int (nmG b (tS b L k) (tE b L k) n (i + 1) (x <<< (5 &&& 31) ||| y))) ∧ ((S, fr), σ, τ) = M') := by
      intro y
      refine S_X6_nameLetters_43 ?_
      simp only [T_X6_nameLetters_43, fi_const, fi_iload, fi_aload, fi_istore, fi_astore, fi_iinc, fi_bin, fi_div, fi_un, fi_dup, fi_dup2, fi_pop, fi_if, fi_cmp, fi_getf, fi_putf, fi_putr, fi_ald, fi_ast, fi_alen, fi_iret, fi_zret, fi_vret, fi_cut, fi_no, fi_s0, fi_s1, fi_s2, fi_s3, fi_s4, fi_v0, fi_v1, fi_v2, fi_v3, fi_v4, fi_v5, fi_n0, fi_n1, fi_n2, fi_mm, fi_stat, fi_alds, fi_tsw, List.getElem?_cons_zero, List.getElem?_cons_succ, List.set_cons_zero, List.set_cons_succ, List.length_cons, List.length_nil, Option.toList_some, Option.toList_none, List.cons_append, List.nil_append, Value.category, true_and, k_0, k_1, k_2, k_3, k_4, false_implies, true_implies, reduceCtorEq, nI_1]
      exact l_letters hS hT hk hI hw n (i + 1) _ (.int y) (by omega)
    refine S_X6_nameLetters_4 ?_
    simp only [T_X6_nameLetters_4, fi_const, fi_iload, fi_aload, fi_istore, fi_astore, fi_iinc, fi_bin, fi_div, fi_un, fi_dup, fi_dup2, fi_pop, fi_if, fi_cmp, fi_getf, fi_putf, fi_putr, fi_ald, fi_ast, fi_alen, fi_iret, fi_zret, fi_vret, fi_cut, fi_no, fi_s0, fi_s1, fi_s2, fi_s3, fi_s4, fi_v0, fi_v1, fi_v2, fi_v3, fi_v4, fi_v5, fi_n0, fi_n1, fi_n2, fi_mm, fi_stat, fi_alds, fi_tsw, List.getElem?_cons_zero, List.getElem?_cons_succ, List.set_cons_zero, List.set_cons_succ, List.length_cons, List.length_nil, Option.toList_some, Option.toList_none, List.cons_append, List.nil_append, Value.category, true_and, k_0, k_1, k_2, k_3, k_4, false_implies, true_implies, reduceCtorEq, hS.2.1, h1, h5, nI_add]
    simp only [nmG]
    refine pk_le 6 i (fun z => by omega) (fun _ => pk_le (tE b L k) (tS b L k + i) (fun w => ?_) (fun w => ?_))
    · rw [if_neg (by omega)]
      exact go 0
    · rw [if_pos w]
      obtain ⟨hb1, hb2⟩ := hb (tS b L k + i) (by omega)
      have i9 : vp_in (nI (tS b L k + i)) 900 := vp_in_nI (by omega) (by decide)
      have hlt := tW_lt hk hw (j := tS b L k + i) (by omega) w
      simp only [hS.2.2.1, fi_const, fi_iload, fi_aload, fi_istore, fi_astore, fi_iinc, fi_bin, fi_div, fi_un, fi_dup, fi_dup2, fi_pop, fi_if, fi_cmp, fi_getf, fi_putf, fi_putr, fi_ald, fi_ast, fi_alen, fi_iret, fi_zret, fi_vret, fi_cut, fi_no, fi_s0, fi_s1, fi_s2, fi_s3, fi_s4, fi_v0, fi_v1, fi_v2, fi_v3, fi_v4, fi_v5, fi_n0, fi_n1, fi_n2, fi_mm, fi_stat, fi_alds, fi_tsw, List.getElem?_cons_zero, List.getElem?_cons_succ, List.set_cons_zero, List.set_cons_succ, List.length_cons, List.length_nil, Option.toList_some, Option.toList_none, List.cons_append, List.nil_append, Value.category, true_and, k_0, k_1, k_2, k_3, k_4, false_implies, true_implies, reduceCtorEq, i9, nI_clamp (show tS b L k + i < 2 ^ 31 by omega), hb2, sB_lo _ (show b (tS b L k + i) < 128 by omega)]
      exact go _
theorem c_letters (hS : shL S) (hT : TX σ b L) {k : Nat} (hk : k ≤ L) (hI : TI σ b L k) (hw : tK b L k = 1) : fs_Ct g m_X6_nameLetters [.ref 45] ((S, fr), σ, τ) (fun r M' => r = some (.int (tN b L k)) ∧ ((S, fr), σ, τ) = M') := by
  refine fs_enterC (by decide) (by simp [fs_ok]) (Nat.le_of_ble_eq_true rfl) (fun d => S_X6_nameLetters_0 ?_)
  show T_X6_nameLetters_0 g d _ [.ref 45, .null, .null, .null] [] _
  simp only [T_X6_nameLetters_0, fi_const, fi_iload, fi_aload, fi_istore, fi_astore, fi_iinc, fi_bin, fi_div, fi_un, fi_dup, fi_dup2, fi_pop, fi_if, fi_cmp, fi_getf, fi_putf, fi_putr, fi_ald, fi_ast, fi_alen, fi_iret, fi_zret, fi_vret, fi_cut, fi_no, fi_s0, fi_s1, fi_s2, fi_s3, fi_s4, fi_v0, fi_v1, fi_v2, fi_v3, fi_v4, fi_v5, fi_n0, fi_n1, fi_n2, fi_mm, fi_stat, fi_alds, fi_tsw, List.getElem?_cons_zero, List.getElem?_cons_succ, List.set_cons_zero, List.set_cons_succ, List.length_cons, List.length_nil, Option.toList_some, Option.toList_none, List.cons_append, List.nil_append, Value.category, true_and, k_0, k_1, k_2, k_3, k_4, false_implies, true_implies, reduceCtorEq]
  exact l_letters hS hT hk hI hw 6 0 0 .null rfl
theorem isNm_1 {k : Nat} (h : isNm b L k = true) : tK b L k = 1 := by
  unfold isNm at h
  simp only [Bool.and_eq_true, decide_eq_true_eq] at h
  exact h.1.1
end PT2
