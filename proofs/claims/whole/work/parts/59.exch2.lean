/-! ===== exchange, both sides ===== -/
abbrev exV (V : Vt) (nS a b : Nat) : Nat → Int32 := exN (V 4) nS (nI a) (nI b)
/-- whether those who work rest, once the days are exchanged -/
def exR (V : Vt) (nS a b : Nat) : Bool := rsM (pnF (fr_ (exV V nS a b) 4) (v_ni V) nS) (fun e => caF (fr_ (exV V nS a b) 4) (v_ca V) e nS) 11 0
def exC (V : Vt) (nA nS kp a b : Nat) : Int32 := coV (chV V kp (exV V nS a b)) nA nS (v_dy (chV V kp (exV V nS a b)))
section PD3
variable {g : fs_G} {d : Nat} {S : List fs_Sh} {fr : Bool} {σ : Nat → Nat → Int32} {τ : Nat → Nat → Int64} {V : Vt} {nL nA nS kp nb : Nat}
theorem n_ex (hX : shX S) (hV : okV V nL nA nS kp nb) {a b : Nat} (ha : a < 12) (hb : b < 12) (hr : exR V nS a b = true) : chgM g S fr τ V kp nb m_X9_exchange [.ref 56, .int (nI a), .int (nI b)] (exC V nA nS kp a b) (chV V kp (exV V nS a b)) (k0 kp + 1) := by
  intro σ h
  obtain ⟨hT, hN, h9, hkp, -⟩ := id hV
  have hM := hX.m
  have hn := hT.2.2.2.2.2.1
  have h1 := h.th 0
  refine fs_enterC (by decide) (by simp [fs_ok]) (Nat.le_of_ble_eq_true rfl) (fun d => S_X9_exchange_0 ?_)
  show T_X9_exchange_0 g d _ [.ref 56, .int (nI a), .int (nI b), .null] [] _
  simp only [T_X9_exchange_0, fi_const, fi_iload, fi_aload, fi_istore, fi_astore, fi_iinc, fi_bin, fi_div, fi_un, fi_dup, fi_dup2, fi_pop, fi_if, fi_cmp, fi_getf, fi_putf, fi_putr, fi_ald, fi_ast, fi_alen, fi_iret, fi_zret, fi_vret, fi_cut, fi_no, fi_s0, fi_s1, fi_s2, fi_s3, fi_s4, fi_v0, fi_v1, fi_v2, fi_v3, fi_v4, fi_v5, fi_n0, fi_n1, fi_n2, fi_mm, fi_stat, fi_alds, fi_tsw, List.getElem?_cons_zero, List.getElem?_cons_succ, List.set_cons_zero, List.set_cons_succ, List.length_cons, List.length_nil, Option.toList_some, Option.toList_none, List.cons_append, List.nil_append, Value.category, true_and, k_0, k_1, k_2, k_3, k_4, false_implies, true_implies, reduceCtorEq]
  simp only [fi_const, fi_iload, fi_aload, fi_istore, fi_astore, fi_iinc, fi_bin, fi_div, fi_un, fi_dup, fi_dup2, fi_pop, fi_if, fi_cmp, fi_getf, fi_putf, fi_putr, fi_ald, fi_ast, fi_alen, fi_iret, fi_zret, fi_vret, fi_cut, fi_no, fi_s0, fi_s1, fi_s2, fi_s3, fi_s4, fi_v0, fi_v1, fi_v2, fi_v3, fi_v4, fi_v5, fi_n0, fi_n1, fi_n2, fi_mm, fi_stat, fi_alds, fi_tsw, List.getElem?_cons_zero, List.getElem?_cons_succ, List.set_cons_zero, List.set_cons_succ, List.length_cons, List.length_nil, Option.toList_some, Option.toList_none, List.cons_append, List.nil_append, Value.category, true_and, k_0, k_1, k_2, k_3, k_4, false_implies, true_implies, reduceCtorEq, hM.1]
  refine ⟨by decide, (c_isDayM (nI a)).mono ?_⟩
  rintro r M' ⟨rfl, rfl⟩
  rw [decide_eq_true (inI_of ha (by omega))]
  simp only [fi_const, fi_iload, fi_aload, fi_istore, fi_astore, fi_iinc, fi_bin, fi_div, fi_un, fi_dup, fi_dup2, fi_pop, fi_if, fi_cmp, fi_getf, fi_putf, fi_putr, fi_ald, fi_ast, fi_alen, fi_iret, fi_zret, fi_vret, fi_cut, fi_no, fi_s0, fi_s1, fi_s2, fi_s3, fi_s4, fi_v0, fi_v1, fi_v2, fi_v3, fi_v4, fi_v5, fi_n0, fi_n1, fi_n2, fi_mm, fi_stat, fi_alds, fi_tsw, List.getElem?_cons_zero, List.getElem?_cons_succ, List.set_cons_zero, List.set_cons_succ, List.length_cons, List.length_nil, Option.toList_some, Option.toList_none, List.cons_append, List.nil_append, Value.category, true_and, k_0, k_1, k_2, k_3, k_4, false_implies, true_implies, reduceCtorEq, bI_eq0, not_true, not_false_eq_true]
  refine ⟨by decide, (c_isDayM (nI b)).mono ?_⟩
  rintro r M' ⟨rfl, rfl⟩
  rw [decide_eq_true (inI_of hb (by omega))]
  simp only [fi_const, fi_iload, fi_aload, fi_istore, fi_astore, fi_iinc, fi_bin, fi_div, fi_un, fi_dup, fi_dup2, fi_pop, fi_if, fi_cmp, fi_getf, fi_putf, fi_putr, fi_ald, fi_ast, fi_alen, fi_iret, fi_zret, fi_vret, fi_cut, fi_no, fi_s0, fi_s1, fi_s2, fi_s3, fi_s4, fi_v0, fi_v1, fi_v2, fi_v3, fi_v4, fi_v5, fi_n0, fi_n1, fi_n2, fi_mm, fi_stat, fi_alds, fi_tsw, List.getElem?_cons_zero, List.getElem?_cons_succ, List.set_cons_zero, List.set_cons_succ, List.length_cons, List.length_nil, Option.toList_some, Option.toList_none, List.cons_append, List.nil_append, Value.category, true_and, k_0, k_1, k_2, k_3, k_4, false_implies, true_implies, reduceCtorEq, bI_eq0, not_true, not_false_eq_true]
  generalize hσ0 : fs_u σ 56 0 0 = σ0 at h1
  have c82 : σ0 58 82 = nI nS := (congrFun h1.1 82).trans hT.2.2.1
  refine ⟨by decide, ⟨_, hM.1⟩, (c_exchM hM hn c82 (nI a) (nI b)).mono ?_⟩
  rintro r M' ⟨rfl, σ1, rfl, hs1, e1⟩
  rw [h1.2.1] at e1
  simp only [fi_const, fi_iload, fi_aload, fi_istore, fi_astore, fi_iinc, fi_bin, fi_div, fi_un, fi_dup, fi_dup2, fi_pop, fi_if, fi_cmp, fi_getf, fi_putf, fi_putr, fi_ald, fi_ast, fi_alen, fi_iret, fi_zret, fi_vret, fi_cut, fi_no, fi_s0, fi_s1, fi_s2, fi_s3, fi_s4, fi_v0, fi_v1, fi_v2, fi_v3, fi_v4, fi_v5, fi_n0, fi_n1, fi_n2, fi_mm, fi_stat, fi_alds, fi_tsw, List.getElem?_cons_zero, List.getElem?_cons_succ, List.set_cons_zero, List.set_cons_succ, List.length_cons, List.length_nil, Option.toList_some, Option.toList_none, List.cons_append, List.nil_append, Value.category, true_and, k_0, k_1, k_2, k_3, k_4, false_implies, true_implies, reduceCtorEq]
  refine ⟨by decide, ⟨_, hM.1⟩, (c_isRested hM hn (by rw [show 56 + 2 = 58 from rfl, hs1 58 (by decide)]; exact c82)).mono ?_⟩
  rintro r M' ⟨rfl, rfl⟩
  have er : rsM (pnF (fr_ (σ1 (56 + 4)) 4) (fr_ (σ1 (56 + 2)) 52) nS) (fun e => caF (fr_ (σ1 (56 + 4)) 4) (fr_ (σ1 (56 + 2)) 66) e nS) 11 0 = exR V nS a b := by
    rw [show 56 + 2 = 58 from rfl, show 56 + 4 = 60 from rfl, e1, hs1 58 (by decide), h1.1]
    rfl
  rw [er, hr]
  simp only [fi_const, fi_iload, fi_aload, fi_istore, fi_astore, fi_iinc, fi_bin, fi_div, fi_un, fi_dup, fi_dup2, fi_pop, fi_if, fi_cmp, fi_getf, fi_putf, fi_putr, fi_ald, fi_ast, fi_alen, fi_iret, fi_zret, fi_vret, fi_cut, fi_no, fi_s0, fi_s1, fi_s2, fi_s3, fi_s4, fi_v0, fi_v1, fi_v2, fi_v3, fi_v4, fi_v5, fi_n0, fi_n1, fi_n2, fi_mm, fi_stat, fi_alds, fi_tsw, List.getElem?_cons_zero, List.getElem?_cons_succ, List.set_cons_zero, List.set_cons_succ, List.length_cons, List.length_nil, Option.toList_some, Option.toList_none, List.cons_append, List.nil_append, Value.category, true_and, k_0, k_1, k_2, k_3, k_4, false_implies, true_implies, reduceCtorEq]
  refine ⟨by decide, ⟨_, hM.1⟩, (c_exchM hM hn (by rw [hs1 58 (by decide)]; exact c82) (nI a) (nI b)).mono ?_⟩
  rintro r M' ⟨rfl, σ2, rfl, hs2, e2⟩
  have e20 : σ2 = σ0 := by
    funext c
    by_cases q : c = 60
    · rw [q, e2, e1, exN_inv, h1.2.1]
    · rw [hs2 c q, hs1 c q]
  subst e20
  simp only [fi_const, fi_iload, fi_aload, fi_istore, fi_astore, fi_iinc, fi_bin, fi_div, fi_un, fi_dup, fi_dup2, fi_pop, fi_if, fi_cmp, fi_getf, fi_putf, fi_putr, fi_ald, fi_ast, fi_alen, fi_iret, fi_zret, fi_vret, fi_cut, fi_no, fi_s0, fi_s1, fi_s2, fi_s3, fi_s4, fi_v0, fi_v1, fi_v2, fi_v3, fi_v4, fi_v5, fi_n0, fi_n1, fi_n2, fi_mm, fi_stat, fi_alds, fi_tsw, List.getElem?_cons_zero, List.getElem?_cons_succ, List.set_cons_zero, List.set_cons_succ, List.length_cons, List.length_nil, Option.toList_some, Option.toList_none, List.cons_append, List.nil_append, Value.category, true_and, k_0, k_1, k_2, k_3, k_4, false_implies, true_implies, reduceCtorEq, bI_eq0, not_true, not_false_eq_true]
  refine ⟨by decide, ⟨_, hM.1⟩, (c_keepsM hM hkp (h1.2.2.2.2.2.1.trans h9)).mono ?_⟩
  rintro r M' ⟨rfl, σ3, rfl, hs3, s1, s2⟩
  simp only [fi_const, fi_iload, fi_aload, fi_istore, fi_astore, fi_iinc, fi_bin, fi_div, fi_un, fi_dup, fi_dup2, fi_pop, fi_if, fi_cmp, fi_getf, fi_putf, fi_putr, fi_ald, fi_ast, fi_alen, fi_iret, fi_zret, fi_vret, fi_cut, fi_no, fi_s0, fi_s1, fi_s2, fi_s3, fi_s4, fi_v0, fi_v1, fi_v2, fi_v3, fi_v4, fi_v5, fi_n0, fi_n1, fi_n2, fi_mm, fi_stat, fi_alds, fi_tsw, List.getElem?_cons_zero, List.getElem?_cons_succ, List.set_cons_zero, List.set_cons_succ, List.length_cons, List.length_nil, Option.toList_some, Option.toList_none, List.cons_append, List.nil_append, Value.category, true_and, k_0, k_1, k_2, k_3, k_4, false_implies, true_implies, reduceCtorEq]
  refine ⟨by decide, ⟨_, hM.1⟩, (c_exchM hM hn (by rw [hs3 58 82 (by decide) (by omega)]; exact c82) (nI a) (nI b)).mono ?_⟩
  rintro r M' ⟨rfl, σ4, rfl, hs4, e4⟩
  have e360 : σ3 60 = V 4 := by
    rw [← h1.2.1]; funext j; exact hs3 60 j (by decide) (by omega)
  rw [e360] at e4
  have h4 : IM σ4 (chV V kp (exV V nS a b)) (k0 kp + 1) nb := IM_ch h1 hkp hs3 s1 s2 hs4 e4
  simp only [fi_const, fi_iload, fi_aload, fi_istore, fi_astore, fi_iinc, fi_bin, fi_div, fi_un, fi_dup, fi_dup2, fi_pop, fi_if, fi_cmp, fi_getf, fi_putf, fi_putr, fi_ald, fi_ast, fi_alen, fi_iret, fi_zret, fi_vret, fi_cut, fi_no, fi_s0, fi_s1, fi_s2, fi_s3, fi_s4, fi_v0, fi_v1, fi_v2, fi_v3, fi_v4, fi_v5, fi_n0, fi_n1, fi_n2, fi_mm, fi_stat, fi_alds, fi_tsw, List.getElem?_cons_zero, List.getElem?_cons_succ, List.set_cons_zero, List.set_cons_succ, List.length_cons, List.length_nil, Option.toList_some, Option.toList_none, List.cons_append, List.nil_append, Value.category, true_and, k_0, k_1, k_2, k_3, k_4, false_implies, true_implies, reduceCtorEq]
  refine ⟨by decide, ⟨_, hM.1⟩, (v_cost (V := chV V kp (exV V nS a b)) (σ := σ4) hM (okT_ch (chV_2 _ _ _) hT) h4.1 (fun i _ => congrFun h4.2.1 i)).mono ?_⟩
  rintro r M' ⟨rfl, σ5, rfl, hs5⟩
  obtain ⟨h5, hs6, g0⟩ := cs_IM h4 hs5
  simp only [fi_const, fi_iload, fi_aload, fi_istore, fi_astore, fi_iinc, fi_bin, fi_div, fi_un, fi_dup, fi_dup2, fi_pop, fi_if, fi_cmp, fi_getf, fi_putf, fi_putr, fi_ald, fi_ast, fi_alen, fi_iret, fi_zret, fi_vret, fi_cut, fi_no, fi_s0, fi_s1, fi_s2, fi_s3, fi_s4, fi_v0, fi_v1, fi_v2, fi_v3, fi_v4, fi_v5, fi_n0, fi_n1, fi_n2, fi_mm, fi_stat, fi_alds, fi_tsw, List.getElem?_cons_zero, List.getElem?_cons_succ, List.set_cons_zero, List.set_cons_succ, List.length_cons, List.length_nil, Option.toList_some, Option.toList_none, List.cons_append, List.nil_append, Value.category, true_and, k_0, k_1, k_2, k_3, k_4, false_implies, true_implies, reduceCtorEq]
  refine ⟨congrArg _ (congrArg _ ?_), σ5, rfl, h5, fun c hc => ?_, ?_⟩
  · rw [h4.2.1]; rfl
  · rw [hs6 c hc, hs4 c (by omega)]
    funext j
    rw [hs3 c j (by omega) (by omega), ← hσ0, th_lo 0 c hc]
  · rw [g0, hs4 56 (by decide), hs3 56 0 (by decide) (by omega), ← hσ0]; simp [fs_u]
theorem l_exC (hX : shX S) (hn : nS ≤ 14) (x y : Int32) {Q : Option Value → fs_M → Prop} : ∀ n k σ, k + n = nS → σ 2 7 = nI nS → (∀ σ', (∀ a, a ≠ 12 → σ' a = σ a) → (∀ j, σ' 12 j = if k ≤ j ∧ j < nS then exD (σ 12 j) x y else σ 12 j) → fs_R g m_X8_exchange d (0, 0) 58 [.ref 0, .int x, .int y, .int (nI nS)] [] ((S, fr), σ', τ) Q) → fs_R g m_X8_exchange d (0, 0) 58 [.ref 0, .int x, .int y, .int (nI k)] [] ((S, fr), σ, τ) Q
  | 0, k, σ, hk, h7, HF => by
    have e : k = nS := by omega
    rw [e]
    exact HF σ (fun _ _ => rfl) (fun j => by rw [if_neg (by omega)])
  | n + 1, k, σ, hk, h7, HF => by
    have hP := hX.2.2.1
    have hi : vp_in (nI k) 14 := vp_in_nI (by omega) (by decide)
    refine S_X8_exchange_58 ?_
    simp only [T_X8_exchange_58, fi_const, fi_iload, fi_aload, fi_istore, fi_astore, fi_iinc, fi_bin, fi_div, fi_un, fi_dup, fi_dup2, fi_pop, fi_if, fi_cmp, fi_getf, fi_putf, fi_putr, fi_ald, fi_ast, fi_alen, fi_iret, fi_zret, fi_vret, fi_cut, fi_no, fi_s0, fi_s1, fi_s2, fi_s3, fi_s4, fi_v0, fi_v1, fi_v2, fi_v3, fi_v4, fi_v5, fi_n0, fi_n1, fi_n2, fi_mm, fi_stat, fi_alds, fi_tsw, List.getElem?_cons_zero, List.getElem?_cons_succ, List.set_cons_zero, List.set_cons_succ, List.length_cons, List.length_nil, Option.toList_some, Option.toList_none, List.cons_append, List.nil_append, Value.category, true_and, k_0, k_1, k_2, k_3, k_4, false_implies, true_implies, reduceCtorEq, hX.1, hP.1, h7, hP.2.2.2.2.2.2.2.2.2.2.1, nI_clamp (show k < 2 ^ 31 by omega), hi, show 2 + 10 = 12 from rfl]
    refine pk_le nS k (fun z => by omega) (fun _ => ⟨by decide, (c_exchanged (σ 12 k) x y).mono ?_⟩)
    rintro r M' ⟨rfl, rfl⟩
    simp only [fi_const, fi_iload, fi_aload, fi_istore, fi_astore, fi_iinc, fi_bin, fi_div, fi_un, fi_dup, fi_dup2, fi_pop, fi_if, fi_cmp, fi_getf, fi_putf, fi_putr, fi_ald, fi_ast, fi_alen, fi_iret, fi_zret, fi_vret, fi_cut, fi_no, fi_s0, fi_s1, fi_s2, fi_s3, fi_s4, fi_v0, fi_v1, fi_v2, fi_v3, fi_v4, fi_v5, fi_n0, fi_n1, fi_n2, fi_mm, fi_stat, fi_alds, fi_tsw, List.getElem?_cons_zero, List.getElem?_cons_succ, List.set_cons_zero, List.set_cons_succ, List.length_cons, List.length_nil, Option.toList_some, Option.toList_none, List.cons_append, List.nil_append, Value.category, true_and, k_0, k_1, k_2, k_3, k_4, false_implies, true_implies, reduceCtorEq, hP.2.2.2.2.2.2.2.2.2.2.1, nI_clamp (show k < 2 ^ 31 by omega), hi, nI_1]
    refine l_exC hX hn x y n (k + 1) (fs_u σ 12 k (exD (σ 12 k) x y)) (by omega) (by rw [fs_u_ne (by decide)]; exact h7) (fun σ' h1 h2 => HF σ' (fun a ha => by rw [h1 a ha, fs_u_ne ha]) (fun j => ?_))
    rw [h2 j]
    simp only [fs_u]
    by_cases q : j = k
    · rw [if_neg (show ¬ (k + 1 ≤ j ∧ j < nS) by omega), if_pos (show True ∧ j = k from ⟨trivial, q⟩), if_pos (show k ≤ j ∧ j < nS by omega), q]
    · rw [if_neg (show ¬ (True ∧ j = k) from fun z => q z.2)]
      by_cases q2 : k + 1 ≤ j ∧ j < nS
      · rw [if_pos q2, if_pos (by omega)]
      · rw [if_neg q2, if_neg (by omega)]
end PD3
