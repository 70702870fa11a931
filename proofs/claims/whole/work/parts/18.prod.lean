/-! ===== Production ===== -/
/-- a production at p -/
def shP (S : List fs_Sh) (p : Nat) : Prop :=
  S[p]? = some (.inr (4, [none, some (some (p + 1)), some (some (p + 2)), some (some (p + 3)), none, some (some (p + 4)), some (some (p + 5)), none, some (some (p + 6)), some (some (p + 7)), some (some (p + 8)), some (some (p + 9)), some (some (p + 10)), some (some (p + 11))])) ∧
  S[p + 1]? = some (.inl (.int, 4)) ∧ S[p + 2]? = some (.inl (.int, 4)) ∧ S[p + 3]? = some (.inl (.boolean, 4)) ∧ S[p + 4]? = some (.inl (.int, 6)) ∧ S[p + 5]? = some (.inl (.int, 6)) ∧ S[p + 6]? = some (.inl (.int, 14)) ∧ S[p + 7]? = some (.inl (.int, 14)) ∧ S[p + 8]? = some (.inl (.boolean, 14)) ∧ S[p + 9]? = some (.inl (.int, 14)) ∧ S[p + 10]? = some (.inl (.int, 14)) ∧ S[p + 11]? = some (.inl (.int, 4))
/-- nothing but these cells changed -/
def same (σ σ' : Nat → Nat → Int32) (P : Nat → Prop) : Prop := ∀ a, ¬ P a → σ' a = σ a
theorem same.rf {σ : Nat → Nat → Int32} {P : Nat → Prop} : same σ σ P := fun _ _ => rfl
theorem same.tr {σ σ1 σ2 : Nat → Nat → Int32} {P : Nat → Prop} (h1 : same σ σ1 P) (h2 : same σ1 σ2 P) : same σ σ2 P := fun a h => (h2 a h).trans (h1 a h)
theorem same.mo {σ σ1 : Nat → Nat → Int32} {P P' : Nat → Prop} (h1 : same σ σ1 P) (h : ∀ a, P a → P' a) : same σ σ1 P' := fun a q => h1 a (fun z => q (h a z))
theorem same_u {σ : Nat → Nat → Int32} {k j : Nat} {x : Int32} {P : Nat → Prop} (h : P k) : same σ (fs_u σ k j x) P := fun a ha => fs_u_ne (fun e => ha (e ▸ h))
theorem same_uu {σ σ1 : Nat → Nat → Int32} {k j : Nat} {x : Int32} {P : Nat → Prop} (h1 : same σ σ1 P) (h : P k) : same σ (fs_u σ1 k j x) P := h1.tr (same_u h)
theorem u_eq (σ : Nat → Nat → Int32) (k j : Nat) (x : Int32) : fs_u σ k j x k j = x := by simp [fs_u]
theorem u_at (σ : Nat → Nat → Int32) (k j i : Nat) (x : Int32) : fs_u σ k j x k i = if i = j then x else σ k i := by simp [fs_u]
theorem u_ne {σ : Nat → Nat → Int32} {k j a b : Nat} {x : Int32} (h : a ≠ k) : fs_u σ k j x a b = σ a b := by simp [fs_u, h]
def fndB (f : Nat → Int32) (x : Int32) : Nat → Nat → Int32
  | 0, _ => -1
  | n + 1, k => if f k = x then nI k else fndB f x n (k + 1)
theorem k_0 : Int32.toNatClampNeg 0 = 0 := by decide
theorem k_1 : Int32.toNatClampNeg 1 = 1 := by decide
theorem k_2 : Int32.toNatClampNeg 2 = 2 := by decide
theorem k_3 : Int32.toNatClampNeg 3 = 3 := by decide
theorem k_4 : Int32.toNatClampNeg 4 = 4 := by decide
theorem k_5 : Int32.toNatClampNeg 5 = 5 := by decide
theorem k_6 : Int32.toNatClampNeg 6 = 6 := by decide
theorem k_7 : Int32.toNatClampNeg 7 = 7 := by decide
theorem k_8 : Int32.toNatClampNeg 8 = 8 := by decide
theorem k_9 : Int32.toNatClampNeg 9 = 9 := by decide
theorem k_10 : Int32.toNatClampNeg 10 = 10 := by decide
theorem k_11 : Int32.toNatClampNeg 11 = 11 := by decide
theorem k_12 : Int32.toNatClampNeg 12 = 12 := by decide
theorem k_13 : Int32.toNatClampNeg 13 = 13 := by decide
theorem k_14 : Int32.toNatClampNeg 14 = 14 := by decide
theorem k_15 : Int32.toNatClampNeg 15 = 15 := by decide
section PP
variable {g : fs_G} {d : Nat} {S : List fs_Sh} {fr : Bool} {σ : Nat → Nat → Int32} {τ : Nat → Nat → Int64} {p : Nat}
theorem l_indexOf {a N : Nat} (x : Int32) (hS : S[a]? = some (.inl (.int, N))) (hN : N < 2 ^ 31) {c : Nat} (hc : c ≤ N) : ∀ n k, k + n = c → fs_R g m_X4_indexOf d (0, 0) 2 [.int x, .ref a, .int (nI c), .int (nI k)] [] ((S, fr), σ, τ) (fun r M' => r = some (.int (fndB (σ a) x n k)) ∧ ((S, fr), σ, τ) = M')
  | 0, k, h => by
    refine S_X4_indexOf_2 ?_
    simp only [T_X4_indexOf_2, fi_const, fi_iload, fi_aload, fi_istore, fi_astore, fi_iinc, fi_bin, fi_div, fi_un, fi_dup, fi_dup2, fi_pop, fi_if, fi_cmp, fi_getf, fi_putf, fi_putr, fi_ald, fi_ast, fi_alen, fi_iret, fi_zret, fi_vret, fi_cut, fi_no, fi_s0, fi_s1, fi_s2, fi_s3, fi_s4, fi_v0, fi_v1, fi_v2, fi_v3, fi_v4, fi_v5, fi_n0, fi_n1, fi_n2, fi_mm, fi_stat, fi_alds, fi_tsw, List.getElem?_cons_zero, List.getElem?_cons_succ, List.set_cons_zero, List.set_cons_succ, List.length_cons, List.length_nil, Option.toList_some, Option.toList_none, List.cons_append, List.nil_append, Value.category]
    refine pk_le c k (fun _ => ?_) (fun h2 => by omega)
    simp [fndB]
  | n + 1, k, h => by
    refine S_X4_indexOf_2 ?_
    simp only [T_X4_indexOf_2, fi_const, fi_iload, fi_aload, fi_istore, fi_astore, fi_iinc, fi_bin, fi_div, fi_un, fi_dup, fi_dup2, fi_pop, fi_if, fi_cmp, fi_getf, fi_putf, fi_putr, fi_ald, fi_ast, fi_alen, fi_iret, fi_zret, fi_vret, fi_cut, fi_no, fi_s0, fi_s1, fi_s2, fi_s3, fi_s4, fi_v0, fi_v1, fi_v2, fi_v3, fi_v4, fi_v5, fi_n0, fi_n1, fi_n2, fi_mm, fi_stat, fi_alds, fi_tsw, List.getElem?_cons_zero, List.getElem?_cons_succ, List.set_cons_zero, List.set_cons_succ, List.length_cons, List.length_nil, Option.toList_some, Option.toList_none, List.cons_append, List.nil_append, Value.category, hS]
    refine pk_le c k (fun h2 => by omega) (fun _ => ⟨trivial, vp_in_nI (by omega) hN, ?_, ?_⟩)
    · intro e
      rw [nI_clamp (by omega)] at e
      simp [fndB, e]
    · intro e
      rw [nI_clamp (by omega)] at e
      rw [fndB, if_neg e, nI_1]
      exact l_indexOf x hS hN hc n (k + 1) (by omega)
theorem c_indexOf {a N : Nat} (x : Int32) (hS : S[a]? = some (.inl (.int, N))) (hN : N < 2 ^ 31) {c : Nat} (hc : c ≤ N) : fs_Ct g m_X4_indexOf [.int x, .ref a, .int (nI c)] ((S, fr), σ, τ) (fun r M' => r = some (.int (fndB (σ a) x c 0)) ∧ ((S, fr), σ, τ) = M') := by
  refine fs_enterC (by decide) (by simp [fs_ok]) (Nat.le_of_ble_eq_true rfl) (fun d => S_X4_indexOf_0 ?_)
  show T_X4_indexOf_0 g d _ [.int x, .ref a, .int (nI c), .null] [] _
  simp only [T_X4_indexOf_0, fi_const, fi_iload, fi_aload, fi_istore, fi_astore, fi_iinc, fi_bin, fi_div, fi_un, fi_dup, fi_dup2, fi_pop, fi_if, fi_cmp, fi_getf, fi_putf, fi_putr, fi_ald, fi_ast, fi_alen, fi_iret, fi_zret, fi_vret, fi_cut, fi_no, fi_s0, fi_s1, fi_s2, fi_s3, fi_s4, fi_v0, fi_v1, fi_v2, fi_v3, fi_v4, fi_v5, fi_n0, fi_n1, fi_n2, fi_mm, fi_stat, fi_alds, fi_tsw, List.getElem?_cons_zero, List.getElem?_cons_succ, List.set_cons_zero, List.set_cons_succ, List.length_cons, List.length_nil, Option.toList_some, Option.toList_none, List.cons_append, List.nil_append, Value.category]
  exact l_indexOf x hS hN hc c 0 (by omega)
theorem c_locationWithName (hP : shP S p) (x : Int32) {n : Nat} (hn : n ≤ 4) (h0 : σ p 0 = nI n) : fs_Ct g m_X4_locationWithName [.ref p, .int x] ((S, fr), σ, τ) (fun r M' => r = some (.int (fndB (σ (p + 1)) x n 0)) ∧ ((S, fr), σ, τ) = M') := by
  obtain ⟨h00, h1, -⟩ := hP
  refine fs_enterC (by decide) (by simp [fs_ok]) (Nat.le_of_ble_eq_true rfl) (fun d => S_X4_locationWithName_0 ?_)
  show T_X4_locationWithName_0 g d _ [.ref p, .int x] [] _
  simp only [T_X4_locationWithName_0, fi_const, fi_iload, fi_aload, fi_istore, fi_astore, fi_iinc, fi_bin, fi_div, fi_un, fi_dup, fi_dup2, fi_pop, fi_if, fi_cmp, fi_getf, fi_putf, fi_putr, fi_ald, fi_ast, fi_alen, fi_iret, fi_zret, fi_vret, fi_cut, fi_no, fi_s0, fi_s1, fi_s2, fi_s3, fi_s4, fi_v0, fi_v1, fi_v2, fi_v3, fi_v4, fi_v5, fi_n0, fi_n1, fi_n2, fi_mm, fi_stat, fi_alds, fi_tsw, List.getElem?_cons_zero, List.getElem?_cons_succ, List.set_cons_zero, List.set_cons_succ, List.length_cons, List.length_nil, Option.toList_some, Option.toList_none, List.cons_append, List.nil_append, Value.category]
  simp only [h00, h0, fi_const, fi_iload, fi_aload, fi_istore, fi_astore, fi_iinc, fi_bin, fi_div, fi_un, fi_dup, fi_dup2, fi_pop, fi_if, fi_cmp, fi_getf, fi_putf, fi_putr, fi_ald, fi_ast, fi_alen, fi_iret, fi_zret, fi_vret, fi_cut, fi_no, fi_s0, fi_s1, fi_s2, fi_s3, fi_s4, fi_v0, fi_v1, fi_v2, fi_v3, fi_v4, fi_v5, fi_n0, fi_n1, fi_n2, fi_mm, fi_stat, fi_alds, fi_tsw, List.getElem?_cons_zero, List.getElem?_cons_succ, List.set_cons_zero, List.set_cons_succ, List.length_cons, List.length_nil, Option.toList_some, Option.toList_none, List.cons_append, List.nil_append, Value.category]
  refine ⟨trivial, trivial, by decide, (c_indexOf x h1 (by decide) hn).mono ?_⟩
  rintro r M' ⟨rfl, rfl⟩
  simp only [fi_const, fi_iload, fi_aload, fi_istore, fi_astore, fi_iinc, fi_bin, fi_div, fi_un, fi_dup, fi_dup2, fi_pop, fi_if, fi_cmp, fi_getf, fi_putf, fi_putr, fi_ald, fi_ast, fi_alen, fi_iret, fi_zret, fi_vret, fi_cut, fi_no, fi_s0, fi_s1, fi_s2, fi_s3, fi_s4, fi_v0, fi_v1, fi_v2, fi_v3, fi_v4, fi_v5, fi_n0, fi_n1, fi_n2, fi_mm, fi_stat, fi_alds, fi_tsw, List.getElem?_cons_zero, List.getElem?_cons_succ, List.set_cons_zero, List.set_cons_succ, List.length_cons, List.length_nil, Option.toList_some, Option.toList_none, List.cons_append, List.nil_append, Value.category]
  exact ⟨trivial, trivial⟩
theorem c_actorWithName (hP : shP S p) (x : Int32) {n : Nat} (hn : n ≤ 6) (h0 : σ p 4 = nI n) : fs_Ct g m_X4_actorWithName [.ref p, .int x] ((S, fr), σ, τ) (fun r M' => r = some (.int (fndB (σ (p + 4)) x n 0)) ∧ ((S, fr), σ, τ) = M') := by
  obtain ⟨h00, h1, h2, h3, h4, -⟩ := hP
  refine fs_enterC (by decide) (by simp [fs_ok]) (Nat.le_of_ble_eq_true rfl) (fun d => S_X4_actorWithName_0 ?_)
  show T_X4_actorWithName_0 g d _ [.ref p, .int x] [] _
  simp only [T_X4_actorWithName_0, fi_const, fi_iload, fi_aload, fi_istore, fi_astore, fi_iinc, fi_bin, fi_div, fi_un, fi_dup, fi_dup2, fi_pop, fi_if, fi_cmp, fi_getf, fi_putf, fi_putr, fi_ald, fi_ast, fi_alen, fi_iret, fi_zret, fi_vret, fi_cut, fi_no, fi_s0, fi_s1, fi_s2, fi_s3, fi_s4, fi_v0, fi_v1, fi_v2, fi_v3, fi_v4, fi_v5, fi_n0, fi_n1, fi_n2, fi_mm, fi_stat, fi_alds, fi_tsw, List.getElem?_cons_zero, List.getElem?_cons_succ, List.set_cons_zero, List.set_cons_succ, List.length_cons, List.length_nil, Option.toList_some, Option.toList_none, List.cons_append, List.nil_append, Value.category]
  simp only [h00, h0, fi_const, fi_iload, fi_aload, fi_istore, fi_astore, fi_iinc, fi_bin, fi_div, fi_un, fi_dup, fi_dup2, fi_pop, fi_if, fi_cmp, fi_getf, fi_putf, fi_putr, fi_ald, fi_ast, fi_alen, fi_iret, fi_zret, fi_vret, fi_cut, fi_no, fi_s0, fi_s1, fi_s2, fi_s3, fi_s4, fi_v0, fi_v1, fi_v2, fi_v3, fi_v4, fi_v5, fi_n0, fi_n1, fi_n2, fi_mm, fi_stat, fi_alds, fi_tsw, List.getElem?_cons_zero, List.getElem?_cons_succ, List.set_cons_zero, List.set_cons_succ, List.length_cons, List.length_nil, Option.toList_some, Option.toList_none, List.cons_append, List.nil_append, Value.category]
  refine ⟨trivial, trivial, by decide, (c_indexOf x h4 (by decide) hn).mono ?_⟩
  rintro r M' ⟨rfl, rfl⟩
  simp only [fi_const, fi_iload, fi_aload, fi_istore, fi_astore, fi_iinc, fi_bin, fi_div, fi_un, fi_dup, fi_dup2, fi_pop, fi_if, fi_cmp, fi_getf, fi_putf, fi_putr, fi_ald, fi_ast, fi_alen, fi_iret, fi_zret, fi_vret, fi_cut, fi_no, fi_s0, fi_s1, fi_s2, fi_s3, fi_s4, fi_v0, fi_v1, fi_v2, fi_v3, fi_v4, fi_v5, fi_n0, fi_n1, fi_n2, fi_mm, fi_stat, fi_alds, fi_tsw, List.getElem?_cons_zero, List.getElem?_cons_succ, List.set_cons_zero, List.set_cons_succ, List.length_cons, List.length_nil, Option.toList_some, Option.toList_none, List.cons_append, List.nil_append, Value.category]
  exact ⟨trivial, trivial⟩
theorem c_isAt (hP : shP S p) (l nt : Int32) {k : Nat} (hk : k < 14) : fs_Ct g m_X4_isAt [.ref p, .int (nI k), .int l, .int nt] ((S, fr), σ, τ) (fun r M' => r = some (.int (bI (decide (σ (p + 6) k = l) && decide (σ (p + 8) k = nt)))) ∧ ((S, fr), σ, τ) = M') := by
  obtain ⟨h00, h1, h2, h3, h4, h5, h6, h7, h8, -⟩ := hP
  refine fs_enterC (by decide) (by simp [fs_ok]) (Nat.le_of_ble_eq_true rfl) (fun d => S_X4_isAt_0 ?_)
  show T_X4_isAt_0 g d _ [.ref p, .int (nI k), .int l, .int nt] [] _
  simp only [T_X4_isAt_0, fi_const, fi_iload, fi_aload, fi_istore, fi_astore, fi_iinc, fi_bin, fi_div, fi_un, fi_dup, fi_dup2, fi_pop, fi_if, fi_cmp, fi_getf, fi_putf, fi_putr, fi_ald, fi_ast, fi_alen, fi_iret, fi_zret, fi_vret, fi_cut, fi_no, fi_s0, fi_s1, fi_s2, fi_s3, fi_s4, fi_v0, fi_v1, fi_v2, fi_v3, fi_v4, fi_v5, fi_n0, fi_n1, fi_n2, fi_mm, fi_stat, fi_alds, fi_tsw, List.getElem?_cons_zero, List.getElem?_cons_succ, List.set_cons_zero, List.set_cons_succ, List.length_cons, List.length_nil, Option.toList_some, Option.toList_none, List.cons_append, List.nil_append, Value.category]
  simp only [h00, h6, h8, fi_const, fi_iload, fi_aload, fi_istore, fi_astore, fi_iinc, fi_bin, fi_div, fi_un, fi_dup, fi_dup2, fi_pop, fi_if, fi_cmp, fi_getf, fi_putf, fi_putr, fi_ald, fi_ast, fi_alen, fi_iret, fi_zret, fi_vret, fi_cut, fi_no, fi_s0, fi_s1, fi_s2, fi_s3, fi_s4, fi_v0, fi_v1, fi_v2, fi_v3, fi_v4, fi_v5, fi_n0, fi_n1, fi_n2, fi_mm, fi_stat, fi_alds, fi_tsw, List.getElem?_cons_zero, List.getElem?_cons_succ, List.set_cons_zero, List.set_cons_succ, List.length_cons, List.length_nil, Option.toList_some, Option.toList_none, List.cons_append, List.nil_append, Value.category, nI_clamp (show k < 2 ^ 31 by omega)]
  by_cases e1 : σ (p + 6) k = l <;> by_cases e2 : σ (p + 8) k = nt <;> simp [e1, e2, bI, vp_in_nI (show k < 14 by omega)]
theorem c_holdingFeeOf (hP : shP S p) {k : Nat} (hk : k < 6) : fs_Ct g m_X4_holdingFeeOf [.ref p, .int (nI k)] ((S, fr), σ, τ) (fun r M' => r = some (.int (σ (p + 5) k * σ (p + 11) 2 / 100)) ∧ ((S, fr), σ, τ) = M') := by
  obtain ⟨h00, h1, h2, h3, h4, h5, h6, h7, h8, h9, h10, h11⟩ := hP
  refine fs_enterC (by decide) (by simp [fs_ok]) (Nat.le_of_ble_eq_true rfl) (fun d => S_X4_holdingFeeOf_0 ?_)
  show T_X4_holdingFeeOf_0 g d _ [.ref p, .int (nI k)] [] _
  simp only [T_X4_holdingFeeOf_0, fi_const, fi_iload, fi_aload, fi_istore, fi_astore, fi_iinc, fi_bin, fi_div, fi_un, fi_dup, fi_dup2, fi_pop, fi_if, fi_cmp, fi_getf, fi_putf, fi_putr, fi_ald, fi_ast, fi_alen, fi_iret, fi_zret, fi_vret, fi_cut, fi_no, fi_s0, fi_s1, fi_s2, fi_s3, fi_s4, fi_v0, fi_v1, fi_v2, fi_v3, fi_v4, fi_v5, fi_n0, fi_n1, fi_n2, fi_mm, fi_stat, fi_alds, fi_tsw, List.getElem?_cons_zero, List.getElem?_cons_succ, List.set_cons_zero, List.set_cons_succ, List.length_cons, List.length_nil, Option.toList_some, Option.toList_none, List.cons_append, List.nil_append, Value.category]
  simp only [h00, h5, h11, fi_const, fi_iload, fi_aload, fi_istore, fi_astore, fi_iinc, fi_bin, fi_div, fi_un, fi_dup, fi_dup2, fi_pop, fi_if, fi_cmp, fi_getf, fi_putf, fi_putr, fi_ald, fi_ast, fi_alen, fi_iret, fi_zret, fi_vret, fi_cut, fi_no, fi_s0, fi_s1, fi_s2, fi_s3, fi_s4, fi_v0, fi_v1, fi_v2, fi_v3, fi_v4, fi_v5, fi_n0, fi_n1, fi_n2, fi_mm, fi_stat, fi_alds, fi_tsw, List.getElem?_cons_zero, List.getElem?_cons_succ, List.set_cons_zero, List.set_cons_succ, List.length_cons, List.length_nil, Option.toList_some, Option.toList_none, List.cons_append, List.nil_append, Value.category, nI_clamp (show k < 2 ^ 31 by omega)]
  refine ⟨trivial, trivial, vp_in_nI hk (by decide), trivial, trivial, pk_in 2 4 (by decide), by decide, ?_, trivial⟩
  rfl
end PP
