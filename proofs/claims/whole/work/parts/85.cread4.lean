/-! ===== the loader of the class: days, statements, texts ===== -/
/-- scenes that are not scheduled -/
def unS (N : Nat → Int32) (n : Nat) : Nat := ct (fun k => decide (N (4 + k) = -1)) n
theorem unS_nw {N : Nat → Int32} {n k e : Nat} (hk : k < n) (he : e < 12) (h : N (4 + k) = -1) : unS (nwN N k (nI e)) n + 1 = unS N n := by
  have hne : ¬ nI e = -1 := m1n he
  have e1 := ct_or1 (fun j => decide (nwN N k (nI e) (4 + j) = -1)) k n
  have e0 : (fun j => decide (nwN N k (nI e) (4 + j) = -1)) k = false := by
    show decide (nwN N k (nI e) (4 + k) = -1) = false
    unfold nwN; rw [if_pos rfl]; exact decide_eq_false hne
  rw [if_pos ⟨hk, e0⟩] at e1
  unfold unS
  rw [← e1]
  refine ct_congr (fun j hj => ?_)
  by_cases q : k = j
  · subst q; simp [h]
  · have : nwN N k (nI e) (4 + j) = N (4 + j) := by unfold nwN; rw [if_neg (by omega)]
    simp [this, q]
theorem eScn_none {b : Nat → Nat} {L : Nat} {T : Nat → Int32} {nS day k : Nat} {N : Nat → Int32} (w : eScn b L T nS day k N = none) : tV b L k < nS ∧ N (4 + tV b L k) = -1 := by
  unfold eScn at w
  by_cases v : tK b L k = 2
  · rw [if_pos v] at w
    by_cases u : nS ≤ tV b L k
    · rw [if_pos u] at w; cases w
    · rw [if_neg u] at w
      by_cases y : N (4 + tV b L k) = -1
      · exact ⟨by omega, y⟩
      · rw [if_neg y] at w; cases w
  · rw [if_neg v] at w; cases w
section PL5
variable {g : fs_G} {d : Nat} {S : List fs_Sh} {fr : Bool} {σ : Nat → Nat → Int32} {τ : Nat → Nat → Int64} {b : Nat → Nat} {L : Nat} {Z : Zt} {k : Nat}
/-- the loop over the further scenes of a day: one scene is taken, the token at k comes next -/
theorem l_readDay (hS : shL S) {e : Nat} (he : e < 12) : ∀ n k N m σ, m + n = 15 → LI σ b L (Z.1, N, Z.2.2.1, Z.2.2.2.1, Z.2.2.2.2) k → m + unS N Z.2.2.1.2.2 ≤ 14 → fs_R g m_X2_readDay d (0, 0) 37 [.ref 26, .int (nI e), .int (nI m)] [] ((S, fr), σ, τ) (rdQ S fr τ σ b L (pSem b L (match (if tK b L k = 3 then .inr (N, k) else pDays b L Z.1 Z.2.2.1.2.2 e n k N : Er ⊕ ((Nat → Int32) × Nat)) with
    | .inl e => .inl e
    | .inr (N, k') => .inr ((Z.1, N, Z.2.2.1, Z.2.2.2.1, Z.2.2.2.2), k'))))
  | 0, k, N, m, σ, hm, h, hu => by omega
  | n + 1, k, N, m, σ, hm, h, hu => by
    obtain ⟨h1, h2, h3, h4, h5⟩ := id h
    have hk4 := tK_le b L k
    refine S_X2_readDay_37 ?_
    simp only [T_X2_readDay_37, fi_const, fi_iload, fi_aload, fi_istore, fi_astore, fi_iinc, fi_bin, fi_div, fi_un, fi_dup, fi_dup2, fi_pop, fi_if, fi_cmp, fi_getf, fi_putf, fi_putr, fi_ald, fi_ast, fi_alen, fi_iret, fi_zret, fi_vret, fi_cut, fi_no, fi_s0, fi_s1, fi_s2, fi_s3, fi_s4, fi_v0, fi_v1, fi_v2, fi_v3, fi_v4, fi_v5, fi_n0, fi_n1, fi_n2, fi_mm, fi_stat, fi_alds, fi_tsw, List.getElem?_cons_zero, List.getElem?_cons_succ, List.set_cons_zero, List.set_cons_succ, List.length_cons, List.length_nil, Option.toList_some, Option.toList_none, List.cons_append, List.nil_append, Value.category, true_and, k_0, k_1, k_2, k_3, k_4, false_implies, true_implies, reduceCtorEq, hS.1, hS.2.1, h3.1]
    refine pk_lt 14 m (fun w => by omega) (fun _ => pk_eq (tK b L k) 3 (fun q => ?_) (fun q => ?_))
    · rw [if_pos q]
      refine ⟨by decide, ⟨_, rfl⟩, (c_takeSemi hS h).mono ?_⟩
      intro r M' hr
      obtain ⟨x, rfl, hx⟩ := hr.z
      simp only [fi_const, fi_iload, fi_aload, fi_istore, fi_astore, fi_iinc, fi_bin, fi_div, fi_un, fi_dup, fi_dup2, fi_pop, fi_if, fi_cmp, fi_getf, fi_putf, fi_putr, fi_ald, fi_ast, fi_alen, fi_iret, fi_zret, fi_vret, fi_cut, fi_no, fi_s0, fi_s1, fi_s2, fi_s3, fi_s4, fi_v0, fi_v1, fi_v2, fi_v3, fi_v4, fi_v5, fi_n0, fi_n1, fi_n2, fi_mm, fi_stat, fi_alds, fi_tsw, List.getElem?_cons_zero, List.getElem?_cons_succ, List.set_cons_zero, List.set_cons_succ, List.length_cons, List.length_nil, Option.toList_some, Option.toList_none, List.cons_append, List.nil_append, Value.category, true_and, k_0, k_1, k_2, k_3, k_4, false_implies, true_implies, reduceCtorEq]
      exact ⟨hx, hr⟩
    · rw [if_neg q]
      refine ⟨by decide, ⟨_, rfl⟩, (c_takeScene hS h he).mono ?_⟩
      rintro r M' ⟨σ1, rfl, lo1, hq⟩
      simp only [pDays]
      cases w : eScn b L Z.1 Z.2.2.1.2.2 e k N with
      | some er =>
        rw [w] at hq
        obtain ⟨rfl, hE⟩ := hq
        simp only [fi_const, fi_iload, fi_aload, fi_istore, fi_astore, fi_iinc, fi_bin, fi_div, fi_un, fi_dup, fi_dup2, fi_pop, fi_if, fi_cmp, fi_getf, fi_putf, fi_putr, fi_ald, fi_ast, fi_alen, fi_iret, fi_zret, fi_vret, fi_cut, fi_no, fi_s0, fi_s1, fi_s2, fi_s3, fi_s4, fi_v0, fi_v1, fi_v2, fi_v3, fi_v4, fi_v5, fi_n0, fi_n1, fi_n2, fi_mm, fi_stat, fi_alds, fi_tsw, List.getElem?_cons_zero, List.getElem?_cons_succ, List.set_cons_zero, List.set_cons_succ, List.length_cons, List.length_nil, Option.toList_some, Option.toList_none, List.cons_append, List.nil_append, Value.category, true_and, k_0, k_1, k_2, k_3, k_4, false_implies, true_implies, reduceCtorEq]
        refine ⟨?_, fun z => absurd trivial z⟩
        exact ⟨Or.inl trivial, σ1, rfl, lo1, rfl, hE⟩
      | none =>
        rw [w] at hq
        obtain ⟨rfl, l1⟩ := hq
        obtain ⟨hv, hm1⟩ := eScn_none w
        have hu1 := unS_nw hv he hm1
        simp only [fi_const, fi_iload, fi_aload, fi_istore, fi_astore, fi_iinc, fi_bin, fi_div, fi_un, fi_dup, fi_dup2, fi_pop, fi_if, fi_cmp, fi_getf, fi_putf, fi_putr, fi_ald, fi_ast, fi_alen, fi_iret, fi_zret, fi_vret, fi_cut, fi_no, fi_s0, fi_s1, fi_s2, fi_s3, fi_s4, fi_v0, fi_v1, fi_v2, fi_v3, fi_v4, fi_v5, fi_n0, fi_n1, fi_n2, fi_mm, fi_stat, fi_alds, fi_tsw, List.getElem?_cons_zero, List.getElem?_cons_succ, List.set_cons_zero, List.set_cons_succ, List.length_cons, List.length_nil, Option.toList_some, Option.toList_none, List.cons_append, List.nil_append, Value.category, true_and, k_0, k_1, k_2, k_3, k_4, false_implies, true_implies, reduceCtorEq, nI_1]
        refine ⟨fun z => absurd z (by decide), fun _ => ?_⟩
        refine fs_R_mono (l_readDay hS he n (tE b L k) (nwN N (tV b L k) (nI e)) (m + 1) σ1 (by omega) l1 (by omega)) ?_
        intro r M' hr
        exact rdQ.tr lo1 hr
theorem c_readDay (hS : shL S) (h : LI σ b L Z k) : fs_Ct g m_X2_readDay [.ref 26] ((S, fr), σ, τ) (rdQ S fr τ σ b L (pSem b L (sDay b L k Z))) := by
  obtain ⟨h1, h2, h3, h4, h5⟩ := id h
  have hnS := h5.1.2.2.2.2.2.1
  have l0 : LI (fs_u σ 26 6 1) b L (Z.1, Z.2.1, Z.2.2.1, Z.2.2.2.1, true) k := by
    refine h.mem (fun a ha => fs_u_ne (by omega)) ?_ h5
    obtain ⟨a1, a2, a3, a4, a5, a6, a7, a8, a9⟩ := h4
    have c : ∀ a, a ≠ 26 → fs_u σ 26 6 1 a = σ a := fun a ha => fs_u_ne ha
    refine ⟨by rw [c 27 (by decide)]; exact a1, by rw [c 28 (by decide), c 29 (by decide), c 30 (by decide)]; exact a2, by rw [c 31 (by decide), c 32 (by decide)]; exact a3, by rw [c 33 (by decide), c 34 (by decide), c 35 (by decide), c 36 (by decide)]; exact a4, by rw [c 37 (by decide)]; exact a5, by rw [c 38 (by decide)]; exact a6, tab_keep a7 (fun a h1 h2 => c a (by omega)), ?_, u_eq ..⟩
    simp only [fs_u]; rw [if_neg (by decide)]; exact a8
  refine fs_enterC (by decide) (by simp [fs_ok]) (Nat.le_of_ble_eq_true rfl) (fun d => S_X2_readDay_0 ?_)
  show T_X2_readDay_0 g d _ [.ref 26, .null, .null] [] _
  simp only [T_X2_readDay_0, fi_const, fi_iload, fi_aload, fi_istore, fi_astore, fi_iinc, fi_bin, fi_div, fi_un, fi_dup, fi_dup2, fi_pop, fi_if, fi_cmp, fi_getf, fi_putf, fi_putr, fi_ald, fi_ast, fi_alen, fi_iret, fi_zret, fi_vret, fi_cut, fi_no, fi_s0, fi_s1, fi_s2, fi_s3, fi_s4, fi_v0, fi_v1, fi_v2, fi_v3, fi_v4, fi_v5, fi_n0, fi_n1, fi_n2, fi_mm, fi_stat, fi_alds, fi_tsw, List.getElem?_cons_zero, List.getElem?_cons_succ, List.set_cons_zero, List.set_cons_succ, List.length_cons, List.length_nil, Option.toList_some, Option.toList_none, List.cons_append, List.nil_append, Value.category, true_and, k_0, k_1, k_2, k_3, k_4, false_implies, true_implies, reduceCtorEq]
  simp only [fi_const, fi_iload, fi_aload, fi_istore, fi_astore, fi_iinc, fi_bin, fi_div, fi_un, fi_dup, fi_dup2, fi_pop, fi_if, fi_cmp, fi_getf, fi_putf, fi_putr, fi_ald, fi_ast, fi_alen, fi_iret, fi_zret, fi_vret, fi_cut, fi_no, fi_s0, fi_s1, fi_s2, fi_s3, fi_s4, fi_v0, fi_v1, fi_v2, fi_v3, fi_v4, fi_v5, fi_n0, fi_n1, fi_n2, fi_mm, fi_stat, fi_alds, fi_tsw, List.getElem?_cons_zero, List.getElem?_cons_succ, List.set_cons_zero, List.set_cons_succ, List.length_cons, List.length_nil, Option.toList_some, Option.toList_none, List.cons_append, List.nil_append, Value.category, true_and, k_0, k_1, k_2, k_3, k_4, false_implies, true_implies, reduceCtorEq, hS.1]
  refine ⟨Or.inr trivial, ?_⟩
  refine ⟨by decide, ⟨_, hS.2.1⟩, (c_adv hS l0).mono ?_⟩
  rintro r M' ⟨rfl, σ1, rfl, f1, l1⟩
  have lo1 : loC σ σ1 := (loC.u (by decide) (by decide)).tr (loC.tk f1)
  simp only [fi_const, fi_iload, fi_aload, fi_istore, fi_astore, fi_iinc, fi_bin, fi_div, fi_un, fi_dup, fi_dup2, fi_pop, fi_if, fi_cmp, fi_getf, fi_putf, fi_putr, fi_ald, fi_ast, fi_alen, fi_iret, fi_zret, fi_vret, fi_cut, fi_no, fi_s0, fi_s1, fi_s2, fi_s3, fi_s4, fi_v0, fi_v1, fi_v2, fi_v3, fi_v4, fi_v5, fi_n0, fi_n1, fi_n2, fi_mm, fi_stat, fi_alds, fi_tsw, List.getElem?_cons_zero, List.getElem?_cons_succ, List.set_cons_zero, List.set_cons_succ, List.length_cons, List.length_nil, Option.toList_some, Option.toList_none, List.cons_append, List.nil_append, Value.category, true_and, k_0, k_1, k_2, k_3, k_4, false_implies, true_implies, reduceCtorEq, hS.1]
  refine ⟨by decide, ⟨_, rfl⟩, (c_takeInteger (lo := 0) (hi := 11) hS l1 (by decide) (by decide)).mono ?_⟩
  rintro r M' ⟨σ2, rfl, lo2, hm⟩
  have lo12 := lo1.tr lo2
  unfold sDay
  cases w : eInt b L 0 11 (tE b L k) with
  | some e =>
    rw [w] at hm
    obtain ⟨rfl, he⟩ := hm
    simp only [fi_const, fi_iload, fi_aload, fi_istore, fi_astore, fi_iinc, fi_bin, fi_div, fi_un, fi_dup, fi_dup2, fi_pop, fi_if, fi_cmp, fi_getf, fi_putf, fi_putr, fi_ald, fi_ast, fi_alen, fi_iret, fi_zret, fi_vret, fi_cut, fi_no, fi_s0, fi_s1, fi_s2, fi_s3, fi_s4, fi_v0, fi_v1, fi_v2, fi_v3, fi_v4, fi_v5, fi_n0, fi_n1, fi_n2, fi_mm, fi_stat, fi_alds, fi_tsw, List.getElem?_cons_zero, List.getElem?_cons_succ, List.set_cons_zero, List.set_cons_succ, List.length_cons, List.length_nil, Option.toList_some, Option.toList_none, List.cons_append, List.nil_append, Value.category, true_and, k_0, k_1, k_2, k_3, k_4, false_implies, true_implies, reduceCtorEq]
    refine ⟨?_, fun z => absurd trivial z⟩
    exact ⟨Or.inl trivial, σ2, rfl, lo12, rfl, he⟩
  | none =>
    rw [w] at hm
    obtain ⟨rfl, l2⟩ := hm
    obtain ⟨-, -, hv⟩ := eInt_none w
    simp only [fi_const, fi_iload, fi_aload, fi_istore, fi_astore, fi_iinc, fi_bin, fi_div, fi_un, fi_dup, fi_dup2, fi_pop, fi_if, fi_cmp, fi_getf, fi_putf, fi_putr, fi_ald, fi_ast, fi_alen, fi_iret, fi_zret, fi_vret, fi_cut, fi_no, fi_s0, fi_s1, fi_s2, fi_s3, fi_s4, fi_v0, fi_v1, fi_v2, fi_v3, fi_v4, fi_v5, fi_n0, fi_n1, fi_n2, fi_mm, fi_stat, fi_alds, fi_tsw, List.getElem?_cons_zero, List.getElem?_cons_succ, List.set_cons_zero, List.set_cons_succ, List.length_cons, List.length_nil, Option.toList_some, Option.toList_none, List.cons_append, List.nil_append, Value.category, true_and, k_0, k_1, k_2, k_3, k_4, false_implies, true_implies, reduceCtorEq, hS.1]
    refine ⟨fun z => absurd z (nI_m1 (by omega)), fun _ => ⟨by decide, ⟨_, rfl⟩, (c_takeScene hS l2 (show tV b L (tE b L k) < 12 by omega)).mono ?_⟩⟩
    rintro r M' ⟨σ3, rfl, lo3, hq⟩
    have lo13 := lo12.tr lo3
    have ep : pDays b L Z.1 Z.2.2.1.2.2 (tV b L (tE b L k)) 15 (tE b L (tE b L k)) Z.2.1 = (match eScn b L Z.1 Z.2.2.1.2.2 (tV b L (tE b L k)) (tE b L (tE b L k)) Z.2.1 with
      | some e => .inl e
      | none => if tK b L (tE b L (tE b L (tE b L k))) = 3 then .inr (nwN Z.2.1 (tV b L (tE b L (tE b L k))) (nI (tV b L (tE b L k))), tE b L (tE b L (tE b L k))) else pDays b L Z.1 Z.2.2.1.2.2 (tV b L (tE b L k)) 14 (tE b L (tE b L (tE b L k))) (nwN Z.2.1 (tV b L (tE b L (tE b L k))) (nI (tV b L (tE b L k))))) := rfl
    rw [ep]
    cases w2 : eScn b L Z.1 Z.2.2.1.2.2 (tV b L (tE b L k)) (tE b L (tE b L k)) Z.2.1 with
    | some er =>
      rw [w2] at hq
      obtain ⟨rfl, hE⟩ := hq
      simp only [fi_const, fi_iload, fi_aload, fi_istore, fi_astore, fi_iinc, fi_bin, fi_div, fi_un, fi_dup, fi_dup2, fi_pop, fi_if, fi_cmp, fi_getf, fi_putf, fi_putr, fi_ald, fi_ast, fi_alen, fi_iret, fi_zret, fi_vret, fi_cut, fi_no, fi_s0, fi_s1, fi_s2, fi_s3, fi_s4, fi_v0, fi_v1, fi_v2, fi_v3, fi_v4, fi_v5, fi_n0, fi_n1, fi_n2, fi_mm, fi_stat, fi_alds, fi_tsw, List.getElem?_cons_zero, List.getElem?_cons_succ, List.set_cons_zero, List.set_cons_succ, List.length_cons, List.length_nil, Option.toList_some, Option.toList_none, List.cons_append, List.nil_append, Value.category, true_and, k_0, k_1, k_2, k_3, k_4, false_implies, true_implies, reduceCtorEq]
      refine ⟨?_, fun z => absurd trivial z⟩
      exact ⟨Or.inl trivial, σ3, rfl, lo13, rfl, hE⟩
    | none =>
      rw [w2] at hq
      obtain ⟨rfl, l3⟩ := hq
      obtain ⟨hv2, hm1⟩ := eScn_none w2
      have hu1 := unS_nw hv2 (show tV b L (tE b L k) < 12 by omega) hm1
      have hu0 : unS Z.2.1 Z.2.2.1.2.2 ≤ Z.2.2.1.2.2 := ct_le _ _
      simp only [fi_const, fi_iload, fi_aload, fi_istore, fi_astore, fi_iinc, fi_bin, fi_div, fi_un, fi_dup, fi_dup2, fi_pop, fi_if, fi_cmp, fi_getf, fi_putf, fi_putr, fi_ald, fi_ast, fi_alen, fi_iret, fi_zret, fi_vret, fi_cut, fi_no, fi_s0, fi_s1, fi_s2, fi_s3, fi_s4, fi_v0, fi_v1, fi_v2, fi_v3, fi_v4, fi_v5, fi_n0, fi_n1, fi_n2, fi_mm, fi_stat, fi_alds, fi_tsw, List.getElem?_cons_zero, List.getElem?_cons_succ, List.set_cons_zero, List.set_cons_succ, List.length_cons, List.length_nil, Option.toList_some, Option.toList_none, List.cons_append, List.nil_append, Value.category, true_and, k_0, k_1, k_2, k_3, k_4, false_implies, true_implies, reduceCtorEq]
      refine ⟨fun z => absurd z (by decide), fun _ => ?_⟩
      refine fs_R_mono (l_readDay (Z := (Z.1, Z.2.1, Z.2.2.1, Z.2.2.2.1, true)) hS (show tV b L (tE b L k) < 12 by omega) 14 _ _ 1 σ3 rfl l3 (by simp only; omega)) ?_
      intro r M' hr
      exact rdQ.tr lo13 hr
theorem c_readStmt (hS : shL S) (h : LI σ b L Z k) : fs_Ct g m_X2_readStatement [.ref 26] ((S, fr), σ, τ) (rdQ S fr τ σ b L (pStm b L k Z)) := by
  obtain ⟨h1, h2, h3, h4, h5⟩ := id h
  have fin : ∀ (r : Option Value) (M' : fs_M) (o : Er ⊕ (Zt × Nat)), rdQ S fr τ σ b L o r M' → ∃ x, r = some (.int x) ∧ (x = 0 ∨ x = 1) ∧ rdQ S fr τ σ b L o (some (.int x)) M' := by
    intro r M' o hr
    obtain ⟨x, rfl, hx⟩ := hr.z
    exact ⟨x, rfl, hx, hr⟩
  refine fs_enterC (by decide) (by simp [fs_ok]) (Nat.le_of_ble_eq_true rfl) (fun d => S_X2_readStatement_0 ?_)
  show T_X2_readStatement_0 g d _ [.ref 26] [] _
  simp only [T_X2_readStatement_0, fi_const, fi_iload, fi_aload, fi_istore, fi_astore, fi_iinc, fi_bin, fi_div, fi_un, fi_dup, fi_dup2, fi_pop, fi_if, fi_cmp, fi_getf, fi_putf, fi_putr, fi_ald, fi_ast, fi_alen, fi_iret, fi_zret, fi_vret, fi_cut, fi_no, fi_s0, fi_s1, fi_s2, fi_s3, fi_s4, fi_v0, fi_v1, fi_v2, fi_v3, fi_v4, fi_v5, fi_n0, fi_n1, fi_n2, fi_mm, fi_stat, fi_alds, fi_tsw, List.getElem?_cons_zero, List.getElem?_cons_succ, List.set_cons_zero, List.set_cons_succ, List.length_cons, List.length_nil, Option.toList_some, Option.toList_none, List.cons_append, List.nil_append, Value.category, true_and, k_0, k_1, k_2, k_3, k_4, false_implies, true_implies, reduceCtorEq]
  simp only [fi_const, fi_iload, fi_aload, fi_istore, fi_astore, fi_iinc, fi_bin, fi_div, fi_un, fi_dup, fi_dup2, fi_pop, fi_if, fi_cmp, fi_getf, fi_putf, fi_putr, fi_ald, fi_ast, fi_alen, fi_iret, fi_zret, fi_vret, fi_cut, fi_no, fi_s0, fi_s1, fi_s2, fi_s3, fi_s4, fi_v0, fi_v1, fi_v2, fi_v3, fi_v4, fi_v5, fi_n0, fi_n1, fi_n2, fi_mm, fi_stat, fi_alds, fi_tsw, List.getElem?_cons_zero, List.getElem?_cons_succ, List.set_cons_zero, List.set_cons_succ, List.length_cons, List.length_nil, Option.toList_some, Option.toList_none, List.cons_append, List.nil_append, Value.category, true_and, k_0, k_1, k_2, k_3, k_4, false_implies, true_implies, reduceCtorEq, hS.1]
  unfold pStm
  refine ⟨by decide, ⟨_, hS.2.1⟩, (c_isW hS h1 h2 h3 sr_0 (i := 0) (by decide) rfl).mono ?_⟩
  rintro r M' ⟨rfl, rfl⟩
  simp only [fi_const, fi_iload, fi_aload, fi_istore, fi_astore, fi_iinc, fi_bin, fi_div, fi_un, fi_dup, fi_dup2, fi_pop, fi_if, fi_cmp, fi_getf, fi_putf, fi_putr, fi_ald, fi_ast, fi_alen, fi_iret, fi_zret, fi_vret, fi_cut, fi_no, fi_s0, fi_s1, fi_s2, fi_s3, fi_s4, fi_v0, fi_v1, fi_v2, fi_v3, fi_v4, fi_v5, fi_n0, fi_n1, fi_n2, fi_mm, fi_stat, fi_alds, fi_tsw, List.getElem?_cons_zero, List.getElem?_cons_succ, List.set_cons_zero, List.set_cons_succ, List.length_cons, List.length_nil, Option.toList_some, Option.toList_none, List.cons_append, List.nil_append, Value.category, true_and, k_0, k_1, k_2, k_3, k_4, false_implies, true_implies, reduceCtorEq, bI_eq0, decide_eq_false_iff_not, hS.1]
  refine ⟨fun y0 => ?_, fun y => ?_⟩
  rotate_left
  · rw [if_pos (Decidable.byContradiction y)]
    refine ⟨by decide, ⟨_, rfl⟩, (c_readLocation hS h).mono ?_⟩
    intro r M' hr
    obtain ⟨x, rfl, hx, hq⟩ := fin r M' _ hr
    simp only [fi_const, fi_iload, fi_aload, fi_istore, fi_astore, fi_iinc, fi_bin, fi_div, fi_un, fi_dup, fi_dup2, fi_pop, fi_if, fi_cmp, fi_getf, fi_putf, fi_putr, fi_ald, fi_ast, fi_alen, fi_iret, fi_zret, fi_vret, fi_cut, fi_no, fi_s0, fi_s1, fi_s2, fi_s3, fi_s4, fi_v0, fi_v1, fi_v2, fi_v3, fi_v4, fi_v5, fi_n0, fi_n1, fi_n2, fi_mm, fi_stat, fi_alds, fi_tsw, List.getElem?_cons_zero, List.getElem?_cons_succ, List.set_cons_zero, List.set_cons_succ, List.length_cons, List.length_nil, Option.toList_some, Option.toList_none, List.cons_append, List.nil_append, Value.category, true_and, k_0, k_1, k_2, k_3, k_4, false_implies, true_implies, reduceCtorEq]
    exact ⟨hx, hq⟩
  rw [if_neg y0]
  refine ⟨by decide, ⟨_, hS.2.1⟩, (c_isW hS h1 h2 h3 sr_13 (i := 1) (by decide) rfl).mono ?_⟩
  rintro r M' ⟨rfl, rfl⟩
  simp only [fi_const, fi_iload, fi_aload, fi_istore, fi_astore, fi_iinc, fi_bin, fi_div, fi_un, fi_dup, fi_dup2, fi_pop, fi_if, fi_cmp, fi_getf, fi_putf, fi_putr, fi_ald, fi_ast, fi_alen, fi_iret, fi_zret, fi_vret, fi_cut, fi_no, fi_s0, fi_s1, fi_s2, fi_s3, fi_s4, fi_v0, fi_v1, fi_v2, fi_v3, fi_v4, fi_v5, fi_n0, fi_n1, fi_n2, fi_mm, fi_stat, fi_alds, fi_tsw, List.getElem?_cons_zero, List.getElem?_cons_succ, List.set_cons_zero, List.set_cons_succ, List.length_cons, List.length_nil, Option.toList_some, Option.toList_none, List.cons_append, List.nil_append, Value.category, true_and, k_0, k_1, k_2, k_3, k_4, false_implies, true_implies, reduceCtorEq, bI_eq0, decide_eq_false_iff_not, hS.1]
  refine ⟨fun y1 => ?_, fun y => ?_⟩
  rotate_left
  · rw [if_pos (Decidable.byContradiction y)]
    refine ⟨by decide, ⟨_, rfl⟩, (c_readActor hS h).mono ?_⟩
    intro r M' hr
    obtain ⟨x, rfl, hx, hq⟩ := fin r M' _ hr
    simp only [fi_const, fi_iload, fi_aload, fi_istore, fi_astore, fi_iinc, fi_bin, fi_div, fi_un, fi_dup, fi_dup2, fi_pop, fi_if, fi_cmp, fi_getf, fi_putf, fi_putr, fi_ald, fi_ast, fi_alen, fi_iret, fi_zret, fi_vret, fi_cut, fi_no, fi_s0, fi_s1, fi_s2, fi_s3, fi_s4, fi_v0, fi_v1, fi_v2, fi_v3, fi_v4, fi_v5, fi_n0, fi_n1, fi_n2, fi_mm, fi_stat, fi_alds, fi_tsw, List.getElem?_cons_zero, List.getElem?_cons_succ, List.set_cons_zero, List.set_cons_succ, List.length_cons, List.length_nil, Option.toList_some, Option.toList_none, List.cons_append, List.nil_append, Value.category, true_and, k_0, k_1, k_2, k_3, k_4, false_implies, true_implies, reduceCtorEq]
    exact ⟨hx, hq⟩
  rw [if_neg y1]
  refine ⟨by decide, ⟨_, hS.2.1⟩, (c_isW hS h1 h2 h3 sr_14 (i := 2) (by decide) rfl).mono ?_⟩
  rintro r M' ⟨rfl, rfl⟩
  simp only [fi_const, fi_iload, fi_aload, fi_istore, fi_astore, fi_iinc, fi_bin, fi_div, fi_un, fi_dup, fi_dup2, fi_pop, fi_if, fi_cmp, fi_getf, fi_putf, fi_putr, fi_ald, fi_ast, fi_alen, fi_iret, fi_zret, fi_vret, fi_cut, fi_no, fi_s0, fi_s1, fi_s2, fi_s3, fi_s4, fi_v0, fi_v1, fi_v2, fi_v3, fi_v4, fi_v5, fi_n0, fi_n1, fi_n2, fi_mm, fi_stat, fi_alds, fi_tsw, List.getElem?_cons_zero, List.getElem?_cons_succ, List.set_cons_zero, List.set_cons_succ, List.length_cons, List.length_nil, Option.toList_some, Option.toList_none, List.cons_append, List.nil_append, Value.category, true_and, k_0, k_1, k_2, k_3, k_4, false_implies, true_implies, reduceCtorEq, bI_eq0, decide_eq_false_iff_not, hS.1]
  refine ⟨fun y2 => ?_, fun y => ?_⟩
  rotate_left
  · rw [if_pos (Decidable.byContradiction y)]
    refine ⟨by decide, ⟨_, rfl⟩, (c_readScene hS h).mono ?_⟩
    intro r M' hr
    obtain ⟨x, rfl, hx, hq⟩ := fin r M' _ hr
    simp only [fi_const, fi_iload, fi_aload, fi_istore, fi_astore, fi_iinc, fi_bin, fi_div, fi_un, fi_dup, fi_dup2, fi_pop, fi_if, fi_cmp, fi_getf, fi_putf, fi_putr, fi_ald, fi_ast, fi_alen, fi_iret, fi_zret, fi_vret, fi_cut, fi_no, fi_s0, fi_s1, fi_s2, fi_s3, fi_s4, fi_v0, fi_v1, fi_v2, fi_v3, fi_v4, fi_v5, fi_n0, fi_n1, fi_n2, fi_mm, fi_stat, fi_alds, fi_tsw, List.getElem?_cons_zero, List.getElem?_cons_succ, List.set_cons_zero, List.set_cons_succ, List.length_cons, List.length_nil, Option.toList_some, Option.toList_none, List.cons_append, List.nil_append, Value.category, true_and, k_0, k_1, k_2, k_3, k_4, false_implies, true_implies, reduceCtorEq]
    exact ⟨hx, hq⟩
  rw [if_neg y2]
  refine ⟨by decide, ⟨_, hS.2.1⟩, (c_isW hS h1 h2 h3 sr_16 (i := 3) (by decide) rfl).mono ?_⟩
  rintro r M' ⟨rfl, rfl⟩
  simp only [fi_const, fi_iload, fi_aload, fi_istore, fi_astore, fi_iinc, fi_bin, fi_div, fi_un, fi_dup, fi_dup2, fi_pop, fi_if, fi_cmp, fi_getf, fi_putf, fi_putr, fi_ald, fi_ast, fi_alen, fi_iret, fi_zret, fi_vret, fi_cut, fi_no, fi_s0, fi_s1, fi_s2, fi_s3, fi_s4, fi_v0, fi_v1, fi_v2, fi_v3, fi_v4, fi_v5, fi_n0, fi_n1, fi_n2, fi_mm, fi_stat, fi_alds, fi_tsw, List.getElem?_cons_zero, List.getElem?_cons_succ, List.set_cons_zero, List.set_cons_succ, List.length_cons, List.length_nil, Option.toList_some, Option.toList_none, List.cons_append, List.nil_append, Value.category, true_and, k_0, k_1, k_2, k_3, k_4, false_implies, true_implies, reduceCtorEq, bI_eq0, decide_eq_false_iff_not, hS.1]
  refine ⟨fun y3 => ?_, fun y => ?_⟩
  rotate_left
  · rw [if_pos (Decidable.byContradiction y)]
    refine ⟨by decide, ⟨_, rfl⟩, (c_readSetting hS h).mono ?_⟩
    intro r M' hr
    obtain ⟨x, rfl, hx, hq⟩ := fin r M' _ hr
    simp only [fi_const, fi_iload, fi_aload, fi_istore, fi_astore, fi_iinc, fi_bin, fi_div, fi_un, fi_dup, fi_dup2, fi_pop, fi_if, fi_cmp, fi_getf, fi_putf, fi_putr, fi_ald, fi_ast, fi_alen, fi_iret, fi_zret, fi_vret, fi_cut, fi_no, fi_s0, fi_s1, fi_s2, fi_s3, fi_s4, fi_v0, fi_v1, fi_v2, fi_v3, fi_v4, fi_v5, fi_n0, fi_n1, fi_n2, fi_mm, fi_stat, fi_alds, fi_tsw, List.getElem?_cons_zero, List.getElem?_cons_succ, List.set_cons_zero, List.set_cons_succ, List.length_cons, List.length_nil, Option.toList_some, Option.toList_none, List.cons_append, List.nil_append, Value.category, true_and, k_0, k_1, k_2, k_3, k_4, false_implies, true_implies, reduceCtorEq]
    exact ⟨hx, hq⟩
  rw [if_neg y3]
  refine ⟨by decide, ⟨_, hS.2.1⟩, (c_isW hS h1 h2 h3 sr_21 (i := 4) (by decide) rfl).mono ?_⟩
  rintro r M' ⟨rfl, rfl⟩
  simp only [fi_const, fi_iload, fi_aload, fi_istore, fi_astore, fi_iinc, fi_bin, fi_div, fi_un, fi_dup, fi_dup2, fi_pop, fi_if, fi_cmp, fi_getf, fi_putf, fi_putr, fi_ald, fi_ast, fi_alen, fi_iret, fi_zret, fi_vret, fi_cut, fi_no, fi_s0, fi_s1, fi_s2, fi_s3, fi_s4, fi_v0, fi_v1, fi_v2, fi_v3, fi_v4, fi_v5, fi_n0, fi_n1, fi_n2, fi_mm, fi_stat, fi_alds, fi_tsw, List.getElem?_cons_zero, List.getElem?_cons_succ, List.set_cons_zero, List.set_cons_succ, List.length_cons, List.length_nil, Option.toList_some, Option.toList_none, List.cons_append, List.nil_append, Value.category, true_and, k_0, k_1, k_2, k_3, k_4, false_implies, true_implies, reduceCtorEq, bI_eq0, decide_eq_false_iff_not, hS.1]
  refine ⟨fun y4 => ?_, fun y => ?_⟩
  · rw [if_neg y4]
    refine ⟨by decide, ⟨_, rfl⟩, (c_fail hS h3.2.1 (-11)).mono ?_⟩
    rintro r M' ⟨rfl, σ', rfl, f1, f2⟩
    simp only [fi_const, fi_iload, fi_aload, fi_istore, fi_astore, fi_iinc, fi_bin, fi_div, fi_un, fi_dup, fi_dup2, fi_pop, fi_if, fi_cmp, fi_getf, fi_putf, fi_putr, fi_ald, fi_ast, fi_alen, fi_iret, fi_zret, fi_vret, fi_cut, fi_no, fi_s0, fi_s1, fi_s2, fi_s3, fi_s4, fi_v0, fi_v1, fi_v2, fi_v3, fi_v4, fi_v5, fi_n0, fi_n1, fi_n2, fi_mm, fi_stat, fi_alds, fi_tsw, List.getElem?_cons_zero, List.getElem?_cons_succ, List.set_cons_zero, List.set_cons_succ, List.length_cons, List.length_nil, Option.toList_some, Option.toList_none, List.cons_append, List.nil_append, Value.category, true_and, k_0, k_1, k_2, k_3, k_4, false_implies, true_implies, reduceCtorEq]
    exact ⟨Or.inl trivial, σ', rfl, f1, rfl, f2⟩
  · rw [if_pos (Decidable.byContradiction y)]
    refine ⟨by decide, ⟨_, rfl⟩, (c_readDay hS h).mono ?_⟩
    intro r M' hr
    obtain ⟨x, rfl, hx, hq⟩ := fin r M' _ hr
    simp only [fi_const, fi_iload, fi_aload, fi_istore, fi_astore, fi_iinc, fi_bin, fi_div, fi_un, fi_dup, fi_dup2, fi_pop, fi_if, fi_cmp, fi_getf, fi_putf, fi_putr, fi_ald, fi_ast, fi_alen, fi_iret, fi_zret, fi_vret, fi_cut, fi_no, fi_s0, fi_s1, fi_s2, fi_s3, fi_s4, fi_v0, fi_v1, fi_v2, fi_v3, fi_v4, fi_v5, fi_n0, fi_n1, fi_n2, fi_mm, fi_stat, fi_alds, fi_tsw, List.getElem?_cons_zero, List.getElem?_cons_succ, List.set_cons_zero, List.set_cons_succ, List.length_cons, List.length_nil, Option.toList_some, Option.toList_none, List.cons_append, List.nil_append, Value.category, true_and, k_0, k_1, k_2, k_3, k_4, false_implies, true_implies, reduceCtorEq]
    exact ⟨hx, hq⟩
theorem c_clear {p : Nat} (hP : shP S p) : fs_Ct g m_X4_clear [.ref p] ((S, fr), σ, τ) (fun r M' => r = none ∧ ∃ σ', M' = ((S, fr), σ', τ) ∧ (∀ a, a ≠ p → a ≠ p + 10 → a ≠ p + 11 → σ' a = σ a) ∧ (∀ j, j ≠ 0 → j ≠ 4 → j ≠ 7 → σ' p j = σ p j) ∧ σ' p 0 = 0 ∧ σ' p 4 = 0 ∧ σ' p 7 = 0 ∧ (∀ j, j < 14 → σ' (p + 10) j = -1) ∧ ∀ i, i < 4 → σ' (p + 11) i = ([24, 100, 50, 4] : List Int32).getD i 0) := by
  refine fs_enterC (by decide) (by simp [fs_ok]) (Nat.le_of_ble_eq_true rfl) (fun d => S_X4_clear_0 ?_)
  show T_X4_clear_0 g d _ [.ref p] [] _
  simp only [T_X4_clear_0, fi_const, fi_iload, fi_aload, fi_istore, fi_astore, fi_iinc, fi_bin, fi_div, fi_un, fi_dup, fi_dup2, fi_pop, fi_if, fi_cmp, fi_getf, fi_putf, fi_putr, fi_ald, fi_ast, fi_alen, fi_iret, fi_zret, fi_vret, fi_cut, fi_no, fi_s0, fi_s1, fi_s2, fi_s3, fi_s4, fi_v0, fi_v1, fi_v2, fi_v3, fi_v4, fi_v5, fi_n0, fi_n1, fi_n2, fi_mm, fi_stat, fi_alds, fi_tsw, List.getElem?_cons_zero, List.getElem?_cons_succ, List.set_cons_zero, List.set_cons_succ, List.length_cons, List.length_nil, Option.toList_some, Option.toList_none, List.cons_append, List.nil_append, Value.category, true_and, k_0, k_1, k_2, k_3, k_4, false_implies, true_implies, reduceCtorEq]
  simp only [fi_const, fi_iload, fi_aload, fi_istore, fi_astore, fi_iinc, fi_bin, fi_div, fi_un, fi_dup, fi_dup2, fi_pop, fi_if, fi_cmp, fi_getf, fi_putf, fi_putr, fi_ald, fi_ast, fi_alen, fi_iret, fi_zret, fi_vret, fi_cut, fi_no, fi_s0, fi_s1, fi_s2, fi_s3, fi_s4, fi_v0, fi_v1, fi_v2, fi_v3, fi_v4, fi_v5, fi_n0, fi_n1, fi_n2, fi_mm, fi_stat, fi_alds, fi_tsw, List.getElem?_cons_zero, List.getElem?_cons_succ, List.set_cons_zero, List.set_cons_succ, List.length_cons, List.length_nil, Option.toList_some, Option.toList_none, List.cons_append, List.nil_append, Value.category, true_and, k_0, k_1, k_2, k_3, k_4, false_implies, true_implies, reduceCtorEq, hP.1]
  refine ⟨by decide, (c_fillJ (b := p + 10) (n := 14) (v := -1) (by decide) hP.2.2.2.2.2.2.2.2.2.2.1).mono ?_⟩
  rintro r M' ⟨rfl, σ1, rfl, f1, f2⟩
  simp only [fi_const, fi_iload, fi_aload, fi_istore, fi_astore, fi_iinc, fi_bin, fi_div, fi_un, fi_dup, fi_dup2, fi_pop, fi_if, fi_cmp, fi_getf, fi_putf, fi_putr, fi_ald, fi_ast, fi_alen, fi_iret, fi_zret, fi_vret, fi_cut, fi_no, fi_s0, fi_s1, fi_s2, fi_s3, fi_s4, fi_v0, fi_v1, fi_v2, fi_v3, fi_v4, fi_v5, fi_n0, fi_n1, fi_n2, fi_mm, fi_stat, fi_alds, fi_tsw, List.getElem?_cons_zero, List.getElem?_cons_succ, List.set_cons_zero, List.set_cons_succ, List.length_cons, List.length_nil, Option.toList_some, Option.toList_none, List.cons_append, List.nil_append, Value.category, true_and, k_0, k_1, k_2, k_3, k_4, false_implies, true_implies, reduceCtorEq, hP.1, fi_acps]
  refine ⟨by decide, 4, hP.2.2.2.2.2.2.2.2.2.2.2, by decide, by decide, by decide, ?_⟩
  refine ⟨_, rfl, fun a h1 h2 h3 => ?_, fun j h1 h2 h3 => ?_, ?_, ?_, ?_, fun j hj => ?_, fun i hi => ?_⟩
  · rw [cp_ne h3, f1 a h2, fs_u_ne h1, fs_u_ne h1, fs_u_ne h1]
  · rw [cp_ne (by omega), f1 p (by omega)]; simp only [fs_u]; rw [if_neg (by omega), if_neg (by omega), if_neg (by omega)]
  · rw [cp_ne (by omega), f1 p (by omega)]; simp [fs_u]
  · rw [cp_ne (by omega), f1 p (by omega)]; simp [fs_u]
  · rw [cp_ne (by omega), f1 p (by omega)]; simp [fs_u]
  · rw [cp_ne (by omega), f2 j, if_pos hj]
  · rw [cp_at, pk_cpy_in (Nat.zero_le _) (by omega), show 0 + (i - 0) = i by omega]
theorem c_open (hS : shL S) (hL : L ≤ 900) (hb : ∀ i, i < L → b i < 256 ∧ σ 1 i = sB (b i)) : fs_Ct g m_X6_open [.ref 45, .int (nI L)] ((S, fr), σ, τ) (fun r M' => r = none ∧ ∃ σ', M' = ((S, fr), σ', τ) ∧ (∀ a, a ≠ 45 → σ' a = σ a) ∧ TX σ' b L ∧ TI σ' b L 0) := by
  have e1 : (if nI 900 < nI L then nI 900 else nI L) = nI L := by rw [if_neg (nI_nlt hL (by decide))]
  have e2 : (if (0 : Int32) < nI L then nI L else 0) = nI L := by
    by_cases q : (0 : Int32) < nI L
    · rw [if_pos q]
    · rw [if_neg q]
      have : L = 0 := Decidable.byContradiction fun w => q (show nI 0 < nI L from nI_lt (by omega) (by omega))
      rw [this]; rfl
  refine fs_enterC (by decide) (by simp [fs_ok]) (Nat.le_of_ble_eq_true rfl) (fun d => S_X6_open_0 ?_)
  show T_X6_open_0 g d _ [.ref 45, .int (nI L)] [] _
  simp only [T_X6_open_0, fi_const, fi_iload, fi_aload, fi_istore, fi_astore, fi_iinc, fi_bin, fi_div, fi_un, fi_dup, fi_dup2, fi_pop, fi_if, fi_cmp, fi_getf, fi_putf, fi_putr, fi_ald, fi_ast, fi_alen, fi_iret, fi_zret, fi_vret, fi_cut, fi_no, fi_s0, fi_s1, fi_s2, fi_s3, fi_s4, fi_v0, fi_v1, fi_v2, fi_v3, fi_v4, fi_v5, fi_n0, fi_n1, fi_n2, fi_mm, fi_stat, fi_alds, fi_tsw, List.getElem?_cons_zero, List.getElem?_cons_succ, List.set_cons_zero, List.set_cons_succ, List.length_cons, List.length_nil, Option.toList_some, Option.toList_none, List.cons_append, List.nil_append, Value.category, true_and, k_0, k_1, k_2, k_3, k_4, false_implies, true_implies, reduceCtorEq]
  simp only [fi_const, fi_iload, fi_aload, fi_istore, fi_astore, fi_iinc, fi_bin, fi_div, fi_un, fi_dup, fi_dup2, fi_pop, fi_if, fi_cmp, fi_getf, fi_putf, fi_putr, fi_ald, fi_ast, fi_alen, fi_iret, fi_zret, fi_vret, fi_cut, fi_no, fi_s0, fi_s1, fi_s2, fi_s3, fi_s4, fi_v0, fi_v1, fi_v2, fi_v3, fi_v4, fi_v5, fi_n0, fi_n1, fi_n2, fi_mm, fi_stat, fi_alds, fi_tsw, List.getElem?_cons_zero, List.getElem?_cons_succ, List.set_cons_zero, List.set_cons_succ, List.length_cons, List.length_nil, Option.toList_some, Option.toList_none, List.cons_append, List.nil_append, Value.category, true_and, k_0, k_1, k_2, k_3, k_4, false_implies, true_implies, reduceCtorEq, hS.2.1, hS.2.2.1, fi_alen]
  refine ⟨Or.inr trivial, Nat.le_of_ble_eq_true rfl, ?_⟩
  rw [e1]
  refine ⟨Nat.le_of_ble_eq_true rfl, ?_⟩
  rw [e2]
  have hT : TX (fs_u (fs_u σ 45 4 (nI L)) 45 5 0) b L := ⟨by simp [fs_u], hL, fun i hi => by rw [fs_u_ne (by decide), fs_u_ne (by decide)]; exact hb i hi⟩
  refine ⟨by decide, ⟨_, rfl⟩, (c_advance hS (Nat.zero_le L) hT (u_eq ..)).mono ?_⟩
  rintro r M' ⟨rfl, σ', rfl, f1, f2⟩
  simp only [fi_const, fi_iload, fi_aload, fi_istore, fi_astore, fi_iinc, fi_bin, fi_div, fi_un, fi_dup, fi_dup2, fi_pop, fi_if, fi_cmp, fi_getf, fi_putf, fi_putr, fi_ald, fi_ast, fi_alen, fi_iret, fi_zret, fi_vret, fi_cut, fi_no, fi_s0, fi_s1, fi_s2, fi_s3, fi_s4, fi_v0, fi_v1, fi_v2, fi_v3, fi_v4, fi_v5, fi_n0, fi_n1, fi_n2, fi_mm, fi_stat, fi_alds, fi_tsw, List.getElem?_cons_zero, List.getElem?_cons_succ, List.set_cons_zero, List.set_cons_succ, List.length_cons, List.length_nil, Option.toList_some, Option.toList_none, List.cons_append, List.nil_append, Value.category, true_and, k_0, k_1, k_2, k_3, k_4, false_implies, true_implies, reduceCtorEq]
  exact ⟨σ', rfl, fun a ha => by rw [f1.ne ha, fs_u_ne ha, fs_u_ne ha], hT.keep f1, f2⟩
theorem pCast_k {T : Nat → Int32} {nA : Nat} : ∀ n k c c' k', k ≤ L → pCast b L T nA n k c = .inr (c', k') → k ≤ k' ∧ k' ≤ L
  | 0, k, c, c', k', hk, h => by simp only [pCast] at h; cases h; exact ⟨Nat.le_refl _, hk⟩
  | n + 1, k, c, c', k', hk, h => by
    have h1 := tE_k (b := b) hk
    simp only [pCast] at h
    split at h
    · cases h; exact ⟨Nat.le_refl _, hk⟩
    · split at h
      · split at h
        · cases h
        · split at h
          · cases h
          · have := pCast_k n (tE b L k) _ c' k' h1.2 h
            omega
      · cases h
theorem pDays_k {T : Nat → Int32} {nS e : Nat} : ∀ n k N N' k', k ≤ L → pDays b L T nS e n k N = .inr (N', k') → k ≤ k' ∧ k' ≤ L
  | 0, k, N, N', k', hk, h => by simp only [pDays] at h; cases h; exact ⟨Nat.le_refl _, hk⟩
  | n + 1, k, N, N', k', hk, h => by
    have h1 := tE_k (b := b) hk
    simp only [pDays] at h
    split at h
    · cases h
    · split at h
      · cases h; omega
      · have := pDays_k n (tE b L k) _ N' k' h1.2 h
        omega
theorem s_k {Z' : Zt} {k' : Nat} (hk : k ≤ L) : (sLoc b L k Z = .inr (Z', k') → k ≤ k' ∧ k' ≤ L) ∧ (sAct b L k Z = .inr (Z', k') → k ≤ k' ∧ k' ≤ L) ∧ (sScn b L k Z = .inr (Z', k') → k ≤ k' ∧ k' ≤ L) ∧ (sSet b L k Z = .inr (Z', k') → k ≤ k' ∧ k' ≤ L) ∧ (sDay b L k Z = .inr (Z', k') → k ≤ k' ∧ k' ≤ L) := by
  have h1 := tE_k (b := b) hk
  have h2 := tE_k (b := b) h1.2
  have h3 := tE_k (b := b) h2.2
  have h4 := tE_k (b := b) h3.2
  refine ⟨fun h => ?_, fun h => ?_, fun h => ?_, fun h => ?_, fun h => ?_⟩
  · unfold sLoc at h
    split at h
    · cases h
    · split at h
      · cases h
      · split at h
        · cases h
        · split at h
          · cases h; omega
          · cases h
  · unfold sAct at h
    split at h
    · cases h
    · split at h
      · cases h
      · split at h
        · cases h
        · cases h; omega
  · unfold sScn at h
    split at h
    · cases h
    · split at h
      · cases h
      · split at h
        · cases h
        · split at h
          · cases h
          · rename_i c' k'' w
            have hn : tE b L (tE b L (tE b L k)) ≤ nK b L (tE b L (tE b L (tE b L k))) ∧ nK b L (tE b L (tE b L (tE b L k))) ≤ L := by unfold nK; split <;> omega
            have := pCast_k _ _ _ _ _ hn.2 w
            cases h
            omega
  · unfold sSet at h
    split at h
    · cases h
    · split at h
      · cases h
      · split at h
        · cases h
        · split at h
          · cases h
          · cases h; omega
  · unfold sDay at h
    split at h
    · cases h
    · split at h
      · cases h
      · rename_i N' k'' w
        have := pDays_k _ _ _ _ _ h2.2 w
        cases h
        omega
theorem pSem_k {o : Er ⊕ (Zt × Nat)} {Z' : Zt} {k' : Nat} (ho : ∀ Z1 k1, o = .inr (Z1, k1) → k ≤ k1 ∧ k1 ≤ L) (h : pSem b L o = .inr (Z', k')) : k < k' ∧ k' ≤ L := by
  unfold pSem at h
  split at h
  · cases h
  · rename_i Z1 k1
    obtain ⟨a1, a2⟩ := ho Z1 k1 rfl
    split at h
    · cases h
    · rename_i w
      have h3 : tK b L k1 = 3 := by
        unfold eSem at w
        by_cases v : tK b L k1 = 3
        · exact v
        · rw [if_neg v] at w; cases w
      cases h
      have hE := tE_le (b := b) a2
      have hSs := tS_le (b := b) a2
      have := hE.2.2.1 (by omega)
      omega
theorem pStm_k {Z' : Zt} {k' : Nat} (hk : k ≤ L) (h : pStm b L k Z = .inr (Z', k')) : k < k' ∧ k' ≤ L := by
  unfold pStm at h
  split at h
  · exact pSem_k (fun Z1 k1 e => (s_k hk).1 e) h
  split at h
  · exact pSem_k (fun Z1 k1 e => (s_k hk).2.1 e) h
  split at h
  · exact pSem_k (fun Z1 k1 e => (s_k hk).2.2.1 e) h
  split at h
  · exact pSem_k (fun Z1 k1 e => (s_k hk).2.2.2.1 e) h
  split at h
  · exact pSem_k (fun Z1 k1 e => (s_k hk).2.2.2.2 e) h
  · cases h
/-- where nothing is told -/
def Z0 (T N : Nat → Int32) : Zt := (fun j => if j < 83 then 0 else T j, fun j => if j < 18 then ([24, 100, 50, 4] : List Int32).getD j (-1) else N j, (0, 0, 0), 0, false)
theorem Z0_ok (T N : Nat → Int32) : okZ (Z0 T N) := by
  have e2 : ∀ j, j < 83 → zV (Z0 T N).1 (Z0 T N).2.1 2 j = 0 := fun j hj => by rw [zV_2]; show (if j < 83 then (0 : Int32) else T j) = 0; rw [if_pos hj]
  refine ⟨⟨e2 80 (by decide), e2 81 (by decide), e2 82 (by decide), Nat.zero_le _, Nat.zero_le _, Nat.zero_le _, fun k hk => Or.inl (e2 (8 + k) (by omega)), fun k hk => absurd hk (Nat.not_lt_zero k), fun k hk => absurd hk (Nat.not_lt_zero k), fun k hk => absurd hk (Nat.not_lt_zero k), fun k hk => absurd hk (Nat.not_lt_zero k), fun k hk => absurd hk (Nat.not_lt_zero k), fun k hk => absurd hk (Nat.not_lt_zero k)⟩, ?_⟩
  refine ⟨⟨24, by decide, by decide, rfl⟩, ⟨100, by decide, rfl⟩, ⟨50, by decide, rfl⟩, ⟨4, by decide, by decide, rfl⟩, fun k hk => Or.inl ?_, fun i j e hi => absurd hi (Nat.not_lt_zero i), fun j hj => ?_⟩
  · show (if 4 + k < 18 then ([24, 100, 50, 4] : List Int32).getD (4 + k) (-1) else N (4 + k)) = -1
    rw [if_pos (by omega)]
    simp [List.getD_eq_getElem?_getD]
  · intro z
    exact z.1 rfl
/-- the loop over the statements -/
def txQ (S : List fs_Sh) (fr : Bool) (τ : Nat → Nat → Int64) (σ : Nat → Nat → Int32) (b : Nat → Nat) (L : Nat) (o : Er ⊕ (Zt × Nat)) : Option Value → fs_M → Prop := fun r M' => ∃ σ', M' = ((S, fr), σ', τ) ∧ loC σ σ' ∧ (match o with | .inl e => r = some (.int e.1) ∧ ER σ' e | .inr (Z, c) => r = some (.int (nI c)) ∧ c ≤ L ∧ DC σ' Z ∧ okZ Z)
theorem l_readText (hS : shL S) : ∀ n k Z c σ, k ≤ L → L - k < n → c ≤ k → LI σ b L Z k → fs_R g m_X2_readText d (0, 0) 34 [.ref 26, .int (nI L), .int (nI c)] [] ((S, fr), σ, τ) (txQ S fr τ σ b L (pTxt b L n k Z c))
  | 0, k, Z, c, σ, hk, hn, hc, h => by omega
  | n + 1, k, Z, c, σ, hk, hn, hc, h => by
    obtain ⟨h1, h2, h3, h4, h5⟩ := id h
    have hL := h1.2.1
    have hk4 := tK_le b L k
    have hSs := tS_le (b := b) hk
    have hE := tE_le (b := b) hk
    refine S_X2_readText_34 ?_
    simp only [T_X2_readText_34, fi_const, fi_iload, fi_aload, fi_istore, fi_astore, fi_iinc, fi_bin, fi_div, fi_un, fi_dup, fi_dup2, fi_pop, fi_if, fi_cmp, fi_getf, fi_putf, fi_putr, fi_ald, fi_ast, fi_alen, fi_iret, fi_zret, fi_vret, fi_cut, fi_no, fi_s0, fi_s1, fi_s2, fi_s3, fi_s4, fi_v0, fi_v1, fi_v2, fi_v3, fi_v4, fi_v5, fi_n0, fi_n1, fi_n2, fi_mm, fi_stat, fi_alds, fi_tsw, List.getElem?_cons_zero, List.getElem?_cons_succ, List.set_cons_zero, List.set_cons_succ, List.length_cons, List.length_nil, Option.toList_some, Option.toList_none, List.cons_append, List.nil_append, Value.category, true_and, k_0, k_1, k_2, k_3, k_4, false_implies, true_implies, reduceCtorEq, hS.1, hS.2.1, h3.1]
    simp only [pTxt]
    refine pk_eq (tK b L k) 0 (fun q => ?_) (fun q => ?_)
    · rw [if_pos q]
      exact ⟨σ, rfl, loC.rf, rfl, by omega, h4, h5⟩
    · rw [if_neg q]
      have hlt := hE.2.2.2 q
      refine pk_le L c (fun w => by omega) (fun _ => ⟨by decide, ⟨_, rfl⟩, (c_readStmt hS h).mono ?_⟩)
      rintro r M' ⟨σ1, rfl, lo1, hq⟩
      cases w : pStm b L k Z with
      | inl e =>
        rw [w] at hq
        obtain ⟨rfl, hE⟩ := hq
        simp only [fi_const, fi_iload, fi_aload, fi_istore, fi_astore, fi_iinc, fi_bin, fi_div, fi_un, fi_dup, fi_dup2, fi_pop, fi_if, fi_cmp, fi_getf, fi_putf, fi_putr, fi_ald, fi_ast, fi_alen, fi_iret, fi_zret, fi_vret, fi_cut, fi_no, fi_s0, fi_s1, fi_s2, fi_s3, fi_s4, fi_v0, fi_v1, fi_v2, fi_v3, fi_v4, fi_v5, fi_n0, fi_n1, fi_n2, fi_mm, fi_stat, fi_alds, fi_tsw, List.getElem?_cons_zero, List.getElem?_cons_succ, List.set_cons_zero, List.set_cons_succ, List.length_cons, List.length_nil, Option.toList_some, Option.toList_none, List.cons_append, List.nil_append, Value.category, true_and, k_0, k_1, k_2, k_3, k_4, false_implies, true_implies, reduceCtorEq, hS.1]
        refine ⟨?_, fun z => absurd trivial z⟩
        exact ⟨σ1, rfl, lo1, by rw [hE.1], hE⟩
      | inr p =>
        obtain ⟨Z', k'⟩ := p
        rw [w] at hq
        obtain ⟨rfl, l1⟩ := hq
        obtain ⟨g1, g2⟩ := pStm_k hk w
        simp only [fi_const, fi_iload, fi_aload, fi_istore, fi_astore, fi_iinc, fi_bin, fi_div, fi_un, fi_dup, fi_dup2, fi_pop, fi_if, fi_cmp, fi_getf, fi_putf, fi_putr, fi_ald, fi_ast, fi_alen, fi_iret, fi_zret, fi_vret, fi_cut, fi_no, fi_s0, fi_s1, fi_s2, fi_s3, fi_s4, fi_v0, fi_v1, fi_v2, fi_v3, fi_v4, fi_v5, fi_n0, fi_n1, fi_n2, fi_mm, fi_stat, fi_alds, fi_tsw, List.getElem?_cons_zero, List.getElem?_cons_succ, List.set_cons_zero, List.set_cons_succ, List.length_cons, List.length_nil, Option.toList_some, Option.toList_none, List.cons_append, List.nil_append, Value.category, true_and, k_0, k_1, k_2, k_3, k_4, false_implies, true_implies, reduceCtorEq, nI_1]
        refine ⟨fun z => absurd z (by decide), fun _ => ?_⟩
        refine fs_R_mono (l_readText hS n k' Z' (c + 1) σ1 g2 (by omega) (by omega) l1) ?_
        rintro r M' ⟨σ', e, f2, f3⟩
        exact ⟨σ', e, lo1.tr f2, f3⟩
theorem c_readText (hS : shL S) (hL : L ≤ 900) (hb : ∀ i, i < L → b i < 256 ∧ σ 1 i = sB (b i)) (T N : Nat → Int32) : fs_Ct g m_X2_readText [.ref 26, .int (nI L)] ((S, fr), σ, τ) (txQ S fr τ σ b L (pTxt b L (L + 1) 0 (Z0 T N) 0)) := by
  have hP := hS.2.2.2.1
  have hD := hS.2.2.2.2
  refine fs_enterC (by decide) (by simp [fs_ok]) (Nat.le_of_ble_eq_true rfl) (fun d => S_X2_readText_0 ?_)
  show T_X2_readText_0 g d _ [.ref 26, .int (nI L), .null] [] _
  simp only [T_X2_readText_0, fi_const, fi_iload, fi_aload, fi_istore, fi_astore, fi_iinc, fi_bin, fi_div, fi_un, fi_dup, fi_dup2, fi_pop, fi_if, fi_cmp, fi_getf, fi_putf, fi_putr, fi_ald, fi_ast, fi_alen, fi_iret, fi_zret, fi_vret, fi_cut, fi_no, fi_s0, fi_s1, fi_s2, fi_s3, fi_s4, fi_v0, fi_v1, fi_v2, fi_v3, fi_v4, fi_v5, fi_n0, fi_n1, fi_n2, fi_mm, fi_stat, fi_alds, fi_tsw, List.getElem?_cons_zero, List.getElem?_cons_succ, List.set_cons_zero, List.set_cons_succ, List.length_cons, List.length_nil, Option.toList_some, Option.toList_none, List.cons_append, List.nil_append, Value.category, true_and, k_0, k_1, k_2, k_3, k_4, false_implies, true_implies, reduceCtorEq]
  simp only [fi_const, fi_iload, fi_aload, fi_istore, fi_astore, fi_iinc, fi_bin, fi_div, fi_un, fi_dup, fi_dup2, fi_pop, fi_if, fi_cmp, fi_getf, fi_putf, fi_putr, fi_ald, fi_ast, fi_alen, fi_iret, fi_zret, fi_vret, fi_cut, fi_no, fi_s0, fi_s1, fi_s2, fi_s3, fi_s4, fi_v0, fi_v1, fi_v2, fi_v3, fi_v4, fi_v5, fi_n0, fi_n1, fi_n2, fi_mm, fi_stat, fi_alds, fi_tsw, List.getElem?_cons_zero, List.getElem?_cons_succ, List.set_cons_zero, List.set_cons_succ, List.length_cons, List.length_nil, Option.toList_some, Option.toList_none, List.cons_append, List.nil_append, Value.category, true_and, k_0, k_1, k_2, k_3, k_4, false_implies, true_implies, reduceCtorEq, hS.1]
  refine ⟨by decide, ⟨_, hP.1⟩, (c_clear hP).mono ?_⟩
  rintro r M' ⟨rfl, σ1, rfl, f1, f2, f3, f4, f5, f6, f7⟩
  simp only [fi_const, fi_iload, fi_aload, fi_istore, fi_astore, fi_iinc, fi_bin, fi_div, fi_un, fi_dup, fi_dup2, fi_pop, fi_if, fi_cmp, fi_getf, fi_putf, fi_putr, fi_ald, fi_ast, fi_alen, fi_iret, fi_zret, fi_vret, fi_cut, fi_no, fi_s0, fi_s1, fi_s2, fi_s3, fi_s4, fi_v0, fi_v1, fi_v2, fi_v3, fi_v4, fi_v5, fi_n0, fi_n1, fi_n2, fi_mm, fi_stat, fi_alds, fi_tsw, List.getElem?_cons_zero, List.getElem?_cons_succ, List.set_cons_zero, List.set_cons_succ, List.length_cons, List.length_nil, Option.toList_some, Option.toList_none, List.cons_append, List.nil_append, Value.category, true_and, k_0, k_1, k_2, k_3, k_4, false_implies, true_implies, reduceCtorEq, hS.1]
  refine ⟨by decide, ⟨_, hD.1⟩, (c_build (nS := 0) hD hP (by decide) (by decide) f5 (fun k hk => absurd hk (Nat.not_lt_zero k))).mono ?_⟩
  rintro r M' ⟨rfl, σ2, rfl, s2, v2⟩
  have c2 : ∀ a, ¬ (39 < a ∧ a < 45) → σ2 a = σ1 a := fun a ha => s2 a ha
  simp only [fi_const, fi_iload, fi_aload, fi_istore, fi_astore, fi_iinc, fi_bin, fi_div, fi_un, fi_dup, fi_dup2, fi_pop, fi_if, fi_cmp, fi_getf, fi_putf, fi_putr, fi_ald, fi_ast, fi_alen, fi_iret, fi_zret, fi_vret, fi_cut, fi_no, fi_s0, fi_s1, fi_s2, fi_s3, fi_s4, fi_v0, fi_v1, fi_v2, fi_v3, fi_v4, fi_v5, fi_n0, fi_n1, fi_n2, fi_mm, fi_stat, fi_alds, fi_tsw, List.getElem?_cons_zero, List.getElem?_cons_succ, List.set_cons_zero, List.set_cons_succ, List.length_cons, List.length_nil, Option.toList_some, Option.toList_none, List.cons_append, List.nil_append, Value.category, true_and, k_0, k_1, k_2, k_3, k_4, false_implies, true_implies, reduceCtorEq, hS.1]
  refine ⟨Or.inl trivial, ?_⟩
  have hb2 : ∀ i, i < L → b i < 256 ∧ fs_u (fs_u σ2 26 5 0) 26 6 0 1 i = sB (b i) := fun i hi => by
    rw [fs_u_ne (by decide), fs_u_ne (by decide), c2 1 (by omega), f1 1 (by decide) (by decide) (by decide)]; exact hb i hi
  refine ⟨by decide, ⟨_, hS.2.1⟩, (c_open hS hL hb2).mono ?_⟩
  rintro r M' ⟨rfl, σ3, rfl, f8, t1, t2⟩
  simp only [fi_const, fi_iload, fi_aload, fi_istore, fi_astore, fi_iinc, fi_bin, fi_div, fi_un, fi_dup, fi_dup2, fi_pop, fi_if, fi_cmp, fi_getf, fi_putf, fi_putr, fi_ald, fi_ast, fi_alen, fi_iret, fi_zret, fi_vret, fi_cut, fi_no, fi_s0, fi_s1, fi_s2, fi_s3, fi_s4, fi_v0, fi_v1, fi_v2, fi_v3, fi_v4, fi_v5, fi_n0, fi_n1, fi_n2, fi_mm, fi_stat, fi_alds, fi_tsw, List.getElem?_cons_zero, List.getElem?_cons_succ, List.set_cons_zero, List.set_cons_succ, List.length_cons, List.length_nil, Option.toList_some, Option.toList_none, List.cons_append, List.nil_append, Value.category, true_and, k_0, k_1, k_2, k_3, k_4, false_implies, true_implies, reduceCtorEq]
  have c3 : ∀ a, a ≠ 45 → a ≠ 26 → ¬ (39 < a ∧ a < 45) → σ3 a = σ1 a := fun a h1 h2 h3 => by rw [f8 a h1, fs_u_ne h2, fs_u_ne h2, c2 a h3]
  have hDC : DC σ3 (Z0 T N) := by
    refine ⟨⟨?_, ?_, ?_⟩, fun l hl => absurd hl (Nat.not_lt_zero l), fun a ha => absurd ha (Nat.not_lt_zero a), fun k hk => absurd hk (Nat.not_lt_zero k), fun k hk => ?_, fun i hi => ?_, ?_, ?_, ?_⟩
    · rw [c3 27 (by decide) (by decide) (by omega)]; exact f3
    · rw [c3 27 (by decide) (by decide) (by omega)]; exact f4
    · rw [c3 27 (by decide) (by decide) (by omega)]; exact f5
    · rw [c3 37 (by decide) (by decide) (by omega), show σ1 37 k = -1 from f6 k hk]
      show _ = (if 4 + k < 18 then ([24, 100, 50, 4] : List Int32).getD (4 + k) (-1) else N (4 + k))
      rw [if_pos (by omega)]
      simp [List.getD_eq_getElem?_getD]
    · rw [c3 38 (by decide) (by decide) (by omega), show σ1 38 i = _ from f7 i hi]
      show _ = (if i < 18 then ([24, 100, 50, 4] : List Int32).getD i (-1) else N i)
      rw [if_pos (by omega)]
      have : i = 0 ∨ i = 1 ∨ i = 2 ∨ i = 3 := by omega
      rcases this with rfl | rfl | rfl | rfl <;> rfl
    · intro e he
      obtain ⟨a1, a2, a3, a4, a5⟩ := v2 e he
      have c4 : ∀ a, 39 < a → a < 45 → σ3 a = σ2 a := fun a h1 h2 => by rw [f8 a (by omega), fs_u_ne (by omega), fs_u_ne (by omega)]
      rw [c4 (39 + 1) (by decide) (by decide), c4 (39 + 2) (by decide) (by decide), c4 (39 + 3) (by decide) (by decide), c4 (39 + 4) (by decide) (by decide), c4 (39 + 5) (by decide) (by decide)]
      exact ⟨a1, a2, a3, a4, a5⟩
    · rw [f8 26 (by decide)]; simp [fs_u, Z0]
    · rw [f8 26 (by decide)]; simp [fs_u, Z0, bI]
  refine fs_R_mono (l_readText hS (L + 1) 0 (Z0 T N) 0 σ3 (Nat.zero_le _) (by omega) (Nat.le_refl _) ⟨t1, Nat.zero_le _, t2, hDC, Z0_ok T N⟩) ?_
  rintro r M' ⟨σ', e, g2, g3⟩
  refine ⟨σ', e, fun a ha => ?_, g3⟩
  rw [g2 a ha, c3 a (by omega) (by omega) (by omega), f1 a (by omega) (by omega) (by omega)]
end PL5
