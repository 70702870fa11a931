/-! ===== questions to the class: a scene moved ===== -/
def reV (V : Vt) (nS k e : Nat) : Int32 := rmF (v_lo V) (v_ni V) (v_le V) (v_ca V) (V 4 0) (v_dy V) nS k e
def cwW (V : Vt) (nA nS k e : Nat) : Int32 := coV V nA nS (dyA (v_dy V) k (nI e))
/-- the set of the days below n on which f is 0 -/
def daF (f : Nat → Int32) : Nat → Nat → Int32 → Int32
  | 0, _, s => s
  | n + 1, e, s => daF f n (e + 1) (if f e = 0 then s ||| 1 <<< (nI e &&& 31) else s)
def bdF (re co : Nat → Int32) : Nat → Nat → Int32 → Int32 → Int32
  | 0, _, b, _ => b
  | n + 1, e, b, l => if re e = 0 ∧ (b = -1 ∨ co e < l) then bdF re co n (e + 1) (nI e) (co e) else bdF re co n (e + 1) b l
theorem reF_congr {lo ni le ca lo' ni' le' ca' dy dy' : Nat → Int32} {cap : Int32} {n k e : Nat} (hd : ∀ j, j < n → dy j = dy' j) (h : ∀ j, j < n → lo j = lo' j ∧ ni j = ni' j ∧ le j = le' j ∧ ca j = ca' j) (hk : k < n) (he : e < 12) : reF lo ni le ca cap dy n k e = reF lo' ni' le' ca' cap dy' n k e := by
  unfold reF
  obtain ⟨k1, k2, k3, k4⟩ := h k hk
  rw [k1, k2, k3, k4]
  refine rsF_congr (fun f hf => ⟨scF_congr hd, loF_congr hd (fun j hj => (h j hj).1), niF_congr hd (fun j hj => (h j hj).2.1), leF_congr hd (fun j hj => (h j hj).2.2.1), caF_congr hd (fun j hj => (h j hj).2.2.2)⟩) he
section PQ4
variable {g : fs_G} {d : Nat} {S : List fs_Sh} {fr : Bool} {σ : Nat → Nat → Int32} {τ : Nat → Nat → Int64} {V : Vt} {nL nA nS kp nb : Nat}
theorem pl_any (hT : okT V nL nA nS) (dy : Nat → Int32) : ∀ e, (plF dy (v_lo V) nS e = -1 ∧ scF dy e nS = 0) ∨ ((∃ l, l < nL ∧ plF dy (v_lo V) nS e = nI l) ∧ ¬ scF dy e nS = 0) := by
  intro e
  obtain ⟨-, -, -, -, -, hn, -, -, hlo, -⟩ := hT
  unfold plF
  cases q : anF dy e nS 0 with
  | none => exact Or.inl ⟨rfl, (scF_an hn).mpr q⟩
  | some k =>
    refine Or.inr ⟨?_, fun z => ?_⟩
    · exact hlo k (anF_some q).1
    · rw [(scF_an hn).mp z] at q; cases q
theorem v_move (hX : shX S) (hT : okT V nL nA nS) (hN : okN V nS (V 4)) (h : IC σ V nL nA nS kp nb) {k e : Nat} (hk : k < nS) (he : e < 12) : fs_Ct g m_X0_moveScene [.ref 20, .int (nI k), .int (nI e)] ((S, fr), σ, τ) (fun r M' => r = some (.int (reV V nS k e)) ∧ ∃ σ', M' = ((S, fr), σ', τ) ∧ IC σ' V nL nA nS kp nb ∧ (∀ a, 56 ≤ a → σ' a = σ a) ∧ (reV V nS k e = 0 → locOK (σ' 21) (σ' 22) ∧ coF (σ' 21) (σ' 22) (σ' 25) (σ' 4) (σ' 7) nA (σ' 13 1) (σ' 13 2) (σ' 13 3) = cwW V nA nS k e)) := by
  have hP := hX.2.2.1
  have hD := hX.2.2.2.2.1
  have hn := hT.2.2.2.2.2.1
  have hL := hT.2.2.2.1
  obtain ⟨c1, c2, c3, ⟨D, hD1, hD2, eD⟩, c5, hcons, hrest⟩ := hN
  have h4 := h.2.2.2.1
  have hd : ∀ j, j < nS → σ 12 j = v_dy V j := fun j hj => h.2.2.2.2.1 j (by omega)
  have hd2 : ∀ x j, j < nS → dyA (σ 12) k x j = dyA (v_dy V) k x j := fun x j hj => by simp only [dyA, hd j hj]
  have h01 : b01 (v_ni V) nS := hT.2.2.2.2.2.2.2.1
  have hco : cons (σ 12) (σ 8) (σ 10) nS := by
    intro i j f hi hj hf e1 e2
    rw [hd i hi] at e1
    rw [hd j hj] at e2
    rw [(h4 i hi).1, (h4 j hj).1, (h4 i hi).2.2.1, (h4 j hj).2.2.1]
    exact hcons i j f hi hj hf e1 e2
  have e0 : reF (σ 8) (σ 10) (σ 9) (σ 11) (σ 13 0) (dyA (σ 12) k (-1)) nS k e = reV V nS k e := by
    unfold reV
    rw [← re_rm hn hk he h01 hcons hrest, h.set (by decide)]
    exact reF_congr (hd2 _) (fun j hj => ⟨(h4 j hj).1, (h4 j hj).2.2.1, (h4 j hj).2.1, (h4 j hj).2.2.2⟩) hk he
  refine (c_move hD hP (by decide) hn h.1.2.2 (fun j hj => by rw [show 2 + 8 = 10 from rfl, (h4 j hj).2.2.1]; exact h01 j hj) hco hk he).mono ?_
  rintro r M' ⟨rfl, σ', rfl, hs, ht⟩
  have c : ∀ a, ¬ (20 < a ∧ a < 26) → σ' a = σ a := fun a ha => hs a ha
  have h' : IC σ' V nL nA nS kp nb := h.keep (fun a h1 h2 h3 => c a (by omega))
  refine ⟨by rw [← e0], σ', rfl, h', fun a ha => c a (by omega), fun q => ?_⟩
  rw [← e0] at q
  have ht := ht q
  have tb : ∀ f, f < 12 → σ' 21 f = scF (dyA (v_dy V) k (nI e)) f nS ∧ σ' 22 f = plF (dyA (v_dy V) k (nI e)) (v_lo V) nS f ∧ σ' 25 f = caF (dyA (v_dy V) k (nI e)) (v_ca V) f nS := by
    intro f hf
    obtain ⟨t1, t2, -, -, t5⟩ := ht f hf
    refine ⟨t1.trans (scF_congr (hd2 _)), t2.trans (plF_congr (hd2 _) (fun j hj => ?_)), t5.trans (caF_congr (hd2 _) (fun j hj => ?_))⟩
    · rw [show 2 + 6 = 8 from rfl, c 8 (by omega)]; exact (h4 j hj).1
    · rw [show 2 + 9 = 11 from rfl, c 11 (by omega)]; exact (h4 j hj).2.2.2
  refine ⟨fun f hf h0 => ?_, ?_⟩
  · rw [(tb f hf).1] at h0
    rcases pl_any hT (dyA (v_dy V) k (nI e)) f with ⟨-, q⟩ | ⟨⟨l, hl, q⟩, -⟩
    · exact absurd q h0
    · exact ⟨l, by omega, (tb f hf).2.1.trans q⟩
  · unfold cwW coV
    rw [h'.set (by decide), h'.set (by decide), h'.set (by decide), eD]
    refine co_cm hD1 hD2 (fun f hf => ?_) (fun f hf => (tb f hf).2.2) (fun f hf hne => ?_) (fun a ha => h'.fee ha)
    · rw [(tb f hf).1, (tb f hf).2.1]
      refine ⟨?_, rfl⟩
      rcases pl_any hT (dyA (v_dy V) k (nI e)) f with ⟨q1, q2⟩ | ⟨⟨l, hl, q1⟩, q2⟩
      · exact ⟨fun _ => q1, fun _ => q2⟩
      · exact ⟨fun z => absurd z q2, fun z => absurd (q1.symm.trans z) (m1n (by omega))⟩
    · rcases pl_any hT (dyA (v_dy V) k (nI e)) f with ⟨q, -⟩ | ⟨⟨l, hl, q⟩, -⟩
      · exact absurd q hne
      · rw [q, nI_clamp (by omega)]
        exact (h'.2.1 l hl).2.1
theorem a_reasonFor (hX : shX S) (hT : okT V nL nA nS) (hN : okN V nS (V 4)) {k e : Nat} (hk : k < nS) (he : e < 12) : askC g S fr τ V nL nA nS kp nb m_X8_reasonFor [.ref 0, .int (nI k), .int (nI e)] (reV V nS k e) := by
  intro σ h
  have hn := hT.2.2.2.2.2.1
  have hP := hX.2.2.1
  have hD := hX.2.2.2.2.1
  refine fs_enterC (by decide) (by simp [fs_ok]) (Nat.le_of_ble_eq_true rfl) (fun d => S_X8_reasonFor_0 ?_)
  show T_X8_reasonFor_0 g d _ [.ref 0, .int (nI k), .int (nI e)] [] _
  simp only [T_X8_reasonFor_0, fi_const, fi_iload, fi_aload, fi_istore, fi_astore, fi_iinc, fi_bin, fi_div, fi_un, fi_dup, fi_dup2, fi_pop, fi_if, fi_cmp, fi_getf, fi_putf, fi_putr, fi_ald, fi_ast, fi_alen, fi_iret, fi_zret, fi_vret, fi_cut, fi_no, fi_s0, fi_s1, fi_s2, fi_s3, fi_s4, fi_v0, fi_v1, fi_v2, fi_v3, fi_v4, fi_v5, fi_n0, fi_n1, fi_n2, fi_mm, fi_stat, fi_alds, fi_tsw, List.getElem?_cons_zero, List.getElem?_cons_succ, List.set_cons_zero, List.set_cons_succ, List.length_cons, List.length_nil, Option.toList_some, Option.toList_none, List.cons_append, List.nil_append, Value.category, true_and, k_0, k_1, k_2, k_3, k_4, false_implies, true_implies, reduceCtorEq]
  simp only [hX.1, hP.1, fi_const, fi_iload, fi_aload, fi_istore, fi_astore, fi_iinc, fi_bin, fi_div, fi_un, fi_dup, fi_dup2, fi_pop, fi_if, fi_cmp, fi_getf, fi_putf, fi_putr, fi_ald, fi_ast, fi_alen, fi_iret, fi_zret, fi_vret, fi_cut, fi_no, fi_s0, fi_s1, fi_s2, fi_s3, fi_s4, fi_v0, fi_v1, fi_v2, fi_v3, fi_v4, fi_v5, fi_n0, fi_n1, fi_n2, fi_mm, fi_stat, fi_alds, fi_tsw, List.getElem?_cons_zero, List.getElem?_cons_succ, List.set_cons_zero, List.set_cons_succ, List.length_cons, List.length_nil, Option.toList_some, Option.toList_none, List.cons_append, List.nil_append, Value.category, true_and, k_0, k_1, k_2, k_3, k_4, false_implies, true_implies, reduceCtorEq, h.1.2.2]
  refine ⟨by decide, (c_requireIndex hk (by omega)).mono ?_⟩
  rintro r M' ⟨rfl, rfl⟩
  simp only [fi_const, fi_iload, fi_aload, fi_istore, fi_astore, fi_iinc, fi_bin, fi_div, fi_un, fi_dup, fi_dup2, fi_pop, fi_if, fi_cmp, fi_getf, fi_putf, fi_putr, fi_ald, fi_ast, fi_alen, fi_iret, fi_zret, fi_vret, fi_cut, fi_no, fi_s0, fi_s1, fi_s2, fi_s3, fi_s4, fi_v0, fi_v1, fi_v2, fi_v3, fi_v4, fi_v5, fi_n0, fi_n1, fi_n2, fi_mm, fi_stat, fi_alds, fi_tsw, List.getElem?_cons_zero, List.getElem?_cons_succ, List.set_cons_zero, List.set_cons_succ, List.length_cons, List.length_nil, Option.toList_some, Option.toList_none, List.cons_append, List.nil_append, Value.category, true_and, k_0, k_1, k_2, k_3, k_4, false_implies, true_implies, reduceCtorEq]
  refine ⟨by decide, (c_requireIndex he (by decide)).mono ?_⟩
  rintro r M' ⟨rfl, rfl⟩
  simp only [fi_const, fi_iload, fi_aload, fi_istore, fi_astore, fi_iinc, fi_bin, fi_div, fi_un, fi_dup, fi_dup2, fi_pop, fi_if, fi_cmp, fi_getf, fi_putf, fi_putr, fi_ald, fi_ast, fi_alen, fi_iret, fi_zret, fi_vret, fi_cut, fi_no, fi_s0, fi_s1, fi_s2, fi_s3, fi_s4, fi_v0, fi_v1, fi_v2, fi_v3, fi_v4, fi_v5, fi_n0, fi_n1, fi_n2, fi_mm, fi_stat, fi_alds, fi_tsw, List.getElem?_cons_zero, List.getElem?_cons_succ, List.set_cons_zero, List.set_cons_succ, List.length_cons, List.length_nil, Option.toList_some, Option.toList_none, List.cons_append, List.nil_append, Value.category, true_and, k_0, k_1, k_2, k_3, k_4, false_implies, true_implies, reduceCtorEq, hX.1]
  refine ⟨by decide, ⟨_, hD.1⟩, (v_move hX hT hN h hk he).mono ?_⟩
  rintro r M' ⟨rfl, σ', rfl, h', hs, -⟩
  simp only [fi_const, fi_iload, fi_aload, fi_istore, fi_astore, fi_iinc, fi_bin, fi_div, fi_un, fi_dup, fi_dup2, fi_pop, fi_if, fi_cmp, fi_getf, fi_putf, fi_putr, fi_ald, fi_ast, fi_alen, fi_iret, fi_zret, fi_vret, fi_cut, fi_no, fi_s0, fi_s1, fi_s2, fi_s3, fi_s4, fi_v0, fi_v1, fi_v2, fi_v3, fi_v4, fi_v5, fi_n0, fi_n1, fi_n2, fi_mm, fi_stat, fi_alds, fi_tsw, List.getElem?_cons_zero, List.getElem?_cons_succ, List.set_cons_zero, List.set_cons_succ, List.length_cons, List.length_nil, Option.toList_some, Option.toList_none, List.cons_append, List.nil_append, Value.category, true_and, k_0, k_1, k_2, k_3, k_4, false_implies, true_implies, reduceCtorEq]
  exact ⟨σ', rfl, h', hs⟩
theorem a_costWith (hX : shX S) (hT : okT V nL nA nS) (hN : okN V nS (V 4)) {k e : Nat} (hk : k < nS) (he : e < 12) : askC g S fr τ V nL nA nS kp nb m_X8_costWith [.ref 0, .int (nI k), .int (nI e)] (if reV V nS k e = 0 then cwW V nA nS k e else -5) := by
  intro σ h
  have hn := hT.2.2.2.2.2.1
  have hP := hX.2.2.1
  have hD := hX.2.2.2.2.1
  refine fs_enterC (by decide) (by simp [fs_ok]) (Nat.le_of_ble_eq_true rfl) (fun d => S_X8_costWith_0 ?_)
  show T_X8_costWith_0 g d _ [.ref 0, .int (nI k), .int (nI e)] [] _
  simp only [T_X8_costWith_0, fi_const, fi_iload, fi_aload, fi_istore, fi_astore, fi_iinc, fi_bin, fi_div, fi_un, fi_dup, fi_dup2, fi_pop, fi_if, fi_cmp, fi_getf, fi_putf, fi_putr, fi_ald, fi_ast, fi_alen, fi_iret, fi_zret, fi_vret, fi_cut, fi_no, fi_s0, fi_s1, fi_s2, fi_s3, fi_s4, fi_v0, fi_v1, fi_v2, fi_v3, fi_v4, fi_v5, fi_n0, fi_n1, fi_n2, fi_mm, fi_stat, fi_alds, fi_tsw, List.getElem?_cons_zero, List.getElem?_cons_succ, List.set_cons_zero, List.set_cons_succ, List.length_cons, List.length_nil, Option.toList_some, Option.toList_none, List.cons_append, List.nil_append, Value.category, true_and, k_0, k_1, k_2, k_3, k_4, false_implies, true_implies, reduceCtorEq]
  simp only [hX.1, hP.1, fi_const, fi_iload, fi_aload, fi_istore, fi_astore, fi_iinc, fi_bin, fi_div, fi_un, fi_dup, fi_dup2, fi_pop, fi_if, fi_cmp, fi_getf, fi_putf, fi_putr, fi_ald, fi_ast, fi_alen, fi_iret, fi_zret, fi_vret, fi_cut, fi_no, fi_s0, fi_s1, fi_s2, fi_s3, fi_s4, fi_v0, fi_v1, fi_v2, fi_v3, fi_v4, fi_v5, fi_n0, fi_n1, fi_n2, fi_mm, fi_stat, fi_alds, fi_tsw, List.getElem?_cons_zero, List.getElem?_cons_succ, List.set_cons_zero, List.set_cons_succ, List.length_cons, List.length_nil, Option.toList_some, Option.toList_none, List.cons_append, List.nil_append, Value.category, true_and, k_0, k_1, k_2, k_3, k_4, false_implies, true_implies, reduceCtorEq, h.1.2.2]
  refine ⟨by decide, (c_requireIndex hk (by omega)).mono ?_⟩
  rintro r M' ⟨rfl, rfl⟩
  simp only [fi_const, fi_iload, fi_aload, fi_istore, fi_astore, fi_iinc, fi_bin, fi_div, fi_un, fi_dup, fi_dup2, fi_pop, fi_if, fi_cmp, fi_getf, fi_putf, fi_putr, fi_ald, fi_ast, fi_alen, fi_iret, fi_zret, fi_vret, fi_cut, fi_no, fi_s0, fi_s1, fi_s2, fi_s3, fi_s4, fi_v0, fi_v1, fi_v2, fi_v3, fi_v4, fi_v5, fi_n0, fi_n1, fi_n2, fi_mm, fi_stat, fi_alds, fi_tsw, List.getElem?_cons_zero, List.getElem?_cons_succ, List.set_cons_zero, List.set_cons_succ, List.length_cons, List.length_nil, Option.toList_some, Option.toList_none, List.cons_append, List.nil_append, Value.category, true_and, k_0, k_1, k_2, k_3, k_4, false_implies, true_implies, reduceCtorEq]
  refine ⟨by decide, (c_requireIndex he (by decide)).mono ?_⟩
  rintro r M' ⟨rfl, rfl⟩
  simp only [fi_const, fi_iload, fi_aload, fi_istore, fi_astore, fi_iinc, fi_bin, fi_div, fi_un, fi_dup, fi_dup2, fi_pop, fi_if, fi_cmp, fi_getf, fi_putf, fi_putr, fi_ald, fi_ast, fi_alen, fi_iret, fi_zret, fi_vret, fi_cut, fi_no, fi_s0, fi_s1, fi_s2, fi_s3, fi_s4, fi_v0, fi_v1, fi_v2, fi_v3, fi_v4, fi_v5, fi_n0, fi_n1, fi_n2, fi_mm, fi_stat, fi_alds, fi_tsw, List.getElem?_cons_zero, List.getElem?_cons_succ, List.set_cons_zero, List.set_cons_succ, List.length_cons, List.length_nil, Option.toList_some, Option.toList_none, List.cons_append, List.nil_append, Value.category, true_and, k_0, k_1, k_2, k_3, k_4, false_implies, true_implies, reduceCtorEq, hX.1]
  refine ⟨by decide, ⟨_, hD.1⟩, (v_move hX hT hN h hk he).mono ?_⟩
  rintro r M' ⟨rfl, σ', rfl, h', hs, ht⟩
  simp only [fi_const, fi_iload, fi_aload, fi_istore, fi_astore, fi_iinc, fi_bin, fi_div, fi_un, fi_dup, fi_dup2, fi_pop, fi_if, fi_cmp, fi_getf, fi_putf, fi_putr, fi_ald, fi_ast, fi_alen, fi_iret, fi_zret, fi_vret, fi_cut, fi_no, fi_s0, fi_s1, fi_s2, fi_s3, fi_s4, fi_v0, fi_v1, fi_v2, fi_v3, fi_v4, fi_v5, fi_n0, fi_n1, fi_n2, fi_mm, fi_stat, fi_alds, fi_tsw, List.getElem?_cons_zero, List.getElem?_cons_succ, List.set_cons_zero, List.set_cons_succ, List.length_cons, List.length_nil, Option.toList_some, Option.toList_none, List.cons_append, List.nil_append, Value.category, true_and, k_0, k_1, k_2, k_3, k_4, false_implies, true_implies, reduceCtorEq, hX.1]
  refine ⟨fun q => ?_, fun q => ?_⟩
  · obtain ⟨t1, t2⟩ := ht q
    refine ⟨by decide, ⟨_, hD.1⟩, (c_totalCost hD hP hT.2.2.2.2.1 h'.1.2.1 t1).mono ?_⟩
    rintro r M' ⟨rfl, rfl⟩
    simp only [fi_const, fi_iload, fi_aload, fi_istore, fi_astore, fi_iinc, fi_bin, fi_div, fi_un, fi_dup, fi_dup2, fi_pop, fi_if, fi_cmp, fi_getf, fi_putf, fi_putr, fi_ald, fi_ast, fi_alen, fi_iret, fi_zret, fi_vret, fi_cut, fi_no, fi_s0, fi_s1, fi_s2, fi_s3, fi_s4, fi_v0, fi_v1, fi_v2, fi_v3, fi_v4, fi_v5, fi_n0, fi_n1, fi_n2, fi_mm, fi_stat, fi_alds, fi_tsw, List.getElem?_cons_zero, List.getElem?_cons_succ, List.set_cons_zero, List.set_cons_succ, List.length_cons, List.length_nil, Option.toList_some, Option.toList_none, List.cons_append, List.nil_append, Value.category, true_and, k_0, k_1, k_2, k_3, k_4, false_implies, true_implies, reduceCtorEq]
    exact ⟨by rw [if_pos q, ← t2], σ', rfl, h', hs⟩
  · exact ⟨by rw [if_neg q], σ', rfl, h', hs⟩
theorem l_daysFor (hX : shX S) (hT : okT V nL nA nS) (hN : okN V nS (V 4)) {k : Nat} (hk : k < nS) : ∀ n e s σ, e + n = 12 → IC σ V nL nA nS kp nb → fs_R g m_X8_daysFor d (0, 0) 15 [.ref 0, .int (nI k), .int s, .int (nI e)] [] ((S, fr), σ, τ) (fun r M' => r = some (.int (daF (reV V nS k) n e s)) ∧ ∃ σ', M' = ((S, fr), σ', τ) ∧ IC σ' V nL nA nS kp nb ∧ ∀ a, 56 ≤ a → σ' a = σ a)
  | 0, e, s, σ, he, h => by
    refine S_X8_daysFor_15 ?_
    simp only [T_X8_daysFor_15, fi_const, fi_iload, fi_aload, fi_istore, fi_astore, fi_iinc, fi_bin, fi_div, fi_un, fi_dup, fi_dup2, fi_pop, fi_if, fi_cmp, fi_getf, fi_putf, fi_putr, fi_ald, fi_ast, fi_alen, fi_iret, fi_zret, fi_vret, fi_cut, fi_no, fi_s0, fi_s1, fi_s2, fi_s3, fi_s4, fi_v0, fi_v1, fi_v2, fi_v3, fi_v4, fi_v5, fi_n0, fi_n1, fi_n2, fi_mm, fi_stat, fi_alds, fi_tsw, List.getElem?_cons_zero, List.getElem?_cons_succ, List.set_cons_zero, List.set_cons_succ, List.length_cons, List.length_nil, Option.toList_some, Option.toList_none, List.cons_append, List.nil_append, Value.category, true_and, k_0, k_1, k_2, k_3, k_4, false_implies, true_implies, reduceCtorEq]
    refine pk_le 12 e (fun _ => ?_) (fun z => by omega)
    exact ⟨rfl, σ, rfl, h, fun _ _ => rfl⟩
  | n + 1, e, s, σ, he, h => by
    have hD := hX.2.2.2.2.1
    refine S_X8_daysFor_15 ?_
    simp only [T_X8_daysFor_15, fi_const, fi_iload, fi_aload, fi_istore, fi_astore, fi_iinc, fi_bin, fi_div, fi_un, fi_dup, fi_dup2, fi_pop, fi_if, fi_cmp, fi_getf, fi_putf, fi_putr, fi_ald, fi_ast, fi_alen, fi_iret, fi_zret, fi_vret, fi_cut, fi_no, fi_s0, fi_s1, fi_s2, fi_s3, fi_s4, fi_v0, fi_v1, fi_v2, fi_v3, fi_v4, fi_v5, fi_n0, fi_n1, fi_n2, fi_mm, fi_stat, fi_alds, fi_tsw, List.getElem?_cons_zero, List.getElem?_cons_succ, List.set_cons_zero, List.set_cons_succ, List.length_cons, List.length_nil, Option.toList_some, Option.toList_none, List.cons_append, List.nil_append, Value.category, true_and, k_0, k_1, k_2, k_3, k_4, false_implies, true_implies, reduceCtorEq, hX.1]
    refine pk_le 12 e (fun z => by omega) (fun _ => ⟨by decide, ⟨_, hD.1⟩, (v_move hX hT hN h hk (show e < 12 by omega)).mono ?_⟩)
    rintro r M' ⟨rfl, σ', rfl, h', hs, -⟩
    simp only [fi_const, fi_iload, fi_aload, fi_istore, fi_astore, fi_iinc, fi_bin, fi_div, fi_un, fi_dup, fi_dup2, fi_pop, fi_if, fi_cmp, fi_getf, fi_putf, fi_putr, fi_ald, fi_ast, fi_alen, fi_iret, fi_zret, fi_vret, fi_cut, fi_no, fi_s0, fi_s1, fi_s2, fi_s3, fi_s4, fi_v0, fi_v1, fi_v2, fi_v3, fi_v4, fi_v5, fi_n0, fi_n1, fi_n2, fi_mm, fi_stat, fi_alds, fi_tsw, List.getElem?_cons_zero, List.getElem?_cons_succ, List.set_cons_zero, List.set_cons_succ, List.length_cons, List.length_nil, Option.toList_some, Option.toList_none, List.cons_append, List.nil_append, Value.category, true_and, k_0, k_1, k_2, k_3, k_4, false_implies, true_implies, reduceCtorEq, nI_1]
    refine ⟨fun q => ?_, fun q => ?_⟩
    · refine fs_R_mono (l_daysFor hX hT hN hk n (e + 1) _ σ' (by omega) h') ?_
      rintro r M' ⟨rfl, σ2, rfl, h2, hs2⟩
      exact ⟨by rw [daF, if_pos q], σ2, rfl, h2, fun a ha => (hs2 a ha).trans (hs a ha)⟩
    · refine fs_R_mono (l_daysFor hX hT hN hk n (e + 1) s σ' (by omega) h') ?_
      rintro r M' ⟨rfl, σ2, rfl, h2, hs2⟩
      exact ⟨by rw [daF, if_neg q], σ2, rfl, h2, fun a ha => (hs2 a ha).trans (hs a ha)⟩
theorem a_daysFor (hX : shX S) (hT : okT V nL nA nS) (hN : okN V nS (V 4)) {k : Nat} (hk : k < nS) : askC g S fr τ V nL nA nS kp nb m_X8_daysFor [.ref 0, .int (nI k)] (daF (reV V nS k) 12 0 0) := by
  intro σ h
  have hn := hT.2.2.2.2.2.1
  have hP := hX.2.2.1
  refine fs_enterC (by decide) (by simp [fs_ok]) (Nat.le_of_ble_eq_true rfl) (fun d => S_X8_daysFor_0 ?_)
  show T_X8_daysFor_0 g d _ [.ref 0, .int (nI k), .null, .null] [] _
  simp only [T_X8_daysFor_0, fi_const, fi_iload, fi_aload, fi_istore, fi_astore, fi_iinc, fi_bin, fi_div, fi_un, fi_dup, fi_dup2, fi_pop, fi_if, fi_cmp, fi_getf, fi_putf, fi_putr, fi_ald, fi_ast, fi_alen, fi_iret, fi_zret, fi_vret, fi_cut, fi_no, fi_s0, fi_s1, fi_s2, fi_s3, fi_s4, fi_v0, fi_v1, fi_v2, fi_v3, fi_v4, fi_v5, fi_n0, fi_n1, fi_n2, fi_mm, fi_stat, fi_alds, fi_tsw, List.getElem?_cons_zero, List.getElem?_cons_succ, List.set_cons_zero, List.set_cons_succ, List.length_cons, List.length_nil, Option.toList_some, Option.toList_none, List.cons_append, List.nil_append, Value.category, true_and, k_0, k_1, k_2, k_3, k_4, false_implies, true_implies, reduceCtorEq]
  simp only [hX.1, hP.1, fi_const, fi_iload, fi_aload, fi_istore, fi_astore, fi_iinc, fi_bin, fi_div, fi_un, fi_dup, fi_dup2, fi_pop, fi_if, fi_cmp, fi_getf, fi_putf, fi_putr, fi_ald, fi_ast, fi_alen, fi_iret, fi_zret, fi_vret, fi_cut, fi_no, fi_s0, fi_s1, fi_s2, fi_s3, fi_s4, fi_v0, fi_v1, fi_v2, fi_v3, fi_v4, fi_v5, fi_n0, fi_n1, fi_n2, fi_mm, fi_stat, fi_alds, fi_tsw, List.getElem?_cons_zero, List.getElem?_cons_succ, List.set_cons_zero, List.set_cons_succ, List.length_cons, List.length_nil, Option.toList_some, Option.toList_none, List.cons_append, List.nil_append, Value.category, true_and, k_0, k_1, k_2, k_3, k_4, false_implies, true_implies, reduceCtorEq, h.1.2.2]
  refine ⟨by decide, (c_requireIndex hk (by omega)).mono ?_⟩
  rintro r M' ⟨rfl, rfl⟩
  simp only [fi_const, fi_iload, fi_aload, fi_istore, fi_astore, fi_iinc, fi_bin, fi_div, fi_un, fi_dup, fi_dup2, fi_pop, fi_if, fi_cmp, fi_getf, fi_putf, fi_putr, fi_ald, fi_ast, fi_alen, fi_iret, fi_zret, fi_vret, fi_cut, fi_no, fi_s0, fi_s1, fi_s2, fi_s3, fi_s4, fi_v0, fi_v1, fi_v2, fi_v3, fi_v4, fi_v5, fi_n0, fi_n1, fi_n2, fi_mm, fi_stat, fi_alds, fi_tsw, List.getElem?_cons_zero, List.getElem?_cons_succ, List.set_cons_zero, List.set_cons_succ, List.length_cons, List.length_nil, Option.toList_some, Option.toList_none, List.cons_append, List.nil_append, Value.category, true_and, k_0, k_1, k_2, k_3, k_4, false_implies, true_implies, reduceCtorEq]
  exact l_daysFor hX hT hN hk 12 0 0 σ rfl h
theorem l_bestDay (hX : shX S) (hT : okT V nL nA nS) (hN : okN V nS (V 4)) {k : Nat} (hk : k < nS) : ∀ n e b l σ z, e + n = 12 → IC σ V nL nA nS kp nb → fs_R g m_X8_bestDay d (0, 0) 18 [.ref 0, .int (nI k), .int b, .int l, .int (nI e), z] [] ((S, fr), σ, τ) (fun r M' => r = some (.int (bdF (reV V nS k) (cwW V nA nS k) n e b l)) ∧ ∃ σ', M' = ((S, fr), σ', τ) ∧ IC σ' V nL nA nS kp nb ∧ ∀ a, 56 ≤ a → σ' a = σ a)
  | 0, e, b, l, σ, z, he, h => by
    refine S_X8_bestDay_18 ?_
    simp only [T_X8_bestDay_18, fi_const, fi_iload, fi_aload, fi_istore, fi_astore, fi_iinc, fi_bin, fi_div, fi_un, fi_dup, fi_dup2, fi_pop, fi_if, fi_cmp, fi_getf, fi_putf, fi_putr, fi_ald, fi_ast, fi_alen, fi_iret, fi_zret, fi_vret, fi_cut, fi_no, fi_s0, fi_s1, fi_s2, fi_s3, fi_s4, fi_v0, fi_v1, fi_v2, fi_v3, fi_v4, fi_v5, fi_n0, fi_n1, fi_n2, fi_mm, fi_stat, fi_alds, fi_tsw, List.getElem?_cons_zero, List.getElem?_cons_succ, List.set_cons_zero, List.set_cons_succ, List.length_cons, List.length_nil, Option.toList_some, Option.toList_none, List.cons_append, List.nil_append, Value.category, true_and, k_0, k_1, k_2, k_3, k_4, false_implies, true_implies, reduceCtorEq]
    refine pk_le 12 e (fun _ => ?_) (fun z => by omega)
    exact ⟨rfl, σ, rfl, h, fun _ _ => rfl⟩
  | n + 1, e, b, l, σ, z, he, h => by
    have hP := hX.2.2.1
    have hD := hX.2.2.2.2.1
    have fin : ∀ σ' b' l' z', IC σ' V nL nA nS kp nb → (∀ a, 56 ≤ a → σ' a = σ a) → bdF (reV V nS k) (cwW V nA nS k) (n + 1) e b l = bdF (reV V nS k) (cwW V nA nS k) n (e + 1) b' l' → fs_R g m_X8_bestDay d (0, 0) 18 [.ref 0, .int (nI k), .int b', .int l', .int (nI (e + 1)), z'] [] ((S, fr), σ', τ) (fun r M' => r = some (.int (bdF (reV V nS k) (cwW V nA nS k) (n + 1) e b l)) ∧ ∃ σ', M' = ((S, fr), σ', τ) ∧ IC σ' V nL nA nS kp nb ∧ ∀ a, 56 ≤ a → σ' a = σ a) := by
      intro σ' b' l' z' h' hs e1
      refine fs_R_mono (l_bestDay hX hT hN hk n (e + 1) b' l' σ' z' (by omega) h') ?_
      rintro r M' ⟨rfl, σ2, rfl, h2, hs2⟩
      exact ⟨by rw [e1], σ2, rfl, h2, fun a ha => (hs2 a ha).trans (hs a ha)⟩
    refine S_X8_bestDay_18 ?_
    simp only [T_X8_bestDay_18, fi_const, fi_iload, fi_aload, fi_istore, fi_astore, fi_iinc, fi_bin, fi_div, fi_un, fi_dup, fi_dup2, fi_pop, fi_if, fi_cmp, fi_getf, fi_putf, fi_putr, fi_ald, fi_ast, fi_alen, fi_iret, fi_zret, fi_vret, fi_cut, fi_no, fi_s0, fi_s1, fi_s2, fi_s3, fi_s4, fi_v0, fi_v1, fi_v2, fi_v3, fi_v4, fi_v5, fi_n0, fi_n1, fi_n2, fi_mm, fi_stat, fi_alds, fi_tsw, List.getElem?_cons_zero, List.getElem?_cons_succ, List.set_cons_zero, List.set_cons_succ, List.length_cons, List.length_nil, Option.toList_some, Option.toList_none, List.cons_append, List.nil_append, Value.category, true_and, k_0, k_1, k_2, k_3, k_4, false_implies, true_implies, reduceCtorEq, hX.1]
    refine pk_le 12 e (fun z => by omega) (fun _ => ⟨by decide, ⟨_, hD.1⟩, (v_move hX hT hN h hk (show e < 12 by omega)).mono ?_⟩)
    rintro r M' ⟨rfl, σ', rfl, h', hs, ht⟩
    simp only [fi_const, fi_iload, fi_aload, fi_istore, fi_astore, fi_iinc, fi_bin, fi_div, fi_un, fi_dup, fi_dup2, fi_pop, fi_if, fi_cmp, fi_getf, fi_putf, fi_putr, fi_ald, fi_ast, fi_alen, fi_iret, fi_zret, fi_vret, fi_cut, fi_no, fi_s0, fi_s1, fi_s2, fi_s3, fi_s4, fi_v0, fi_v1, fi_v2, fi_v3, fi_v4, fi_v5, fi_n0, fi_n1, fi_n2, fi_mm, fi_stat, fi_alds, fi_tsw, List.getElem?_cons_zero, List.getElem?_cons_succ, List.set_cons_zero, List.set_cons_succ, List.length_cons, List.length_nil, Option.toList_some, Option.toList_none, List.cons_append, List.nil_append, Value.category, true_and, k_0, k_1, k_2, k_3, k_4, false_implies, true_implies, reduceCtorEq, nI_1, hX.1]
    refine ⟨fun q => ?_, fun q => ?_⟩
    · obtain ⟨t1, t2⟩ := ht q
      refine ⟨by decide, ⟨_, hD.1⟩, (c_totalCost hD hP hT.2.2.2.2.1 h'.1.2.1 t1).mono ?_⟩
      rintro r M' ⟨rfl, rfl⟩
      simp only [fi_const, fi_iload, fi_aload, fi_istore, fi_astore, fi_iinc, fi_bin, fi_div, fi_un, fi_dup, fi_dup2, fi_pop, fi_if, fi_cmp, fi_getf, fi_putf, fi_putr, fi_ald, fi_ast, fi_alen, fi_iret, fi_zret, fi_vret, fi_cut, fi_no, fi_s0, fi_s1, fi_s2, fi_s3, fi_s4, fi_v0, fi_v1, fi_v2, fi_v3, fi_v4, fi_v5, fi_n0, fi_n1, fi_n2, fi_mm, fi_stat, fi_alds, fi_tsw, List.getElem?_cons_zero, List.getElem?_cons_succ, List.set_cons_zero, List.set_cons_succ, List.length_cons, List.length_nil, Option.toList_some, Option.toList_none, List.cons_append, List.nil_append, Value.category, true_and, k_0, k_1, k_2, k_3, k_4, false_implies, true_implies, reduceCtorEq, nI_1]
      rw [show (20 + 1) = 21 from rfl, show 20 + 2 = 22 from rfl, show 20 + 5 = 25 from rfl, show 2 + 2 = 4 from rfl, show 2 + 5 = 7 from rfl, show 2 + 11 = 13 from rfl, t2]
      refine ⟨fun q1 => ?_, fun q1 => ?_⟩
      · exact fin σ' _ _ _ h' hs (by rw [bdF, if_pos ⟨q, Or.inl q1⟩])
      · refine ⟨fun q2 => ?_, fun q2 => ?_⟩
        · exact fin σ' _ _ _ h' hs (by rw [bdF, if_neg (fun z => z.2.elim q1 (fun z => by rw [Int32.lt_iff_toInt_lt] at z; rw [Int32.le_iff_toInt_le] at q2; omega))])
        · exact fin σ' _ _ _ h' hs (by rw [bdF, if_pos ⟨q, Or.inr (by rw [Int32.lt_iff_toInt_lt]; rw [Int32.le_iff_toInt_le] at q2; omega)⟩])
    · exact fin σ' _ _ _ h' hs (by rw [bdF, if_neg (fun z => q z.1)])
theorem a_bestDay (hX : shX S) (hT : okT V nL nA nS) (hN : okN V nS (V 4)) {k : Nat} (hk : k < nS) : askC g S fr τ V nL nA nS kp nb m_X8_bestDay [.ref 0, .int (nI k)] (bdF (reV V nS k) (cwW V nA nS k) 12 0 (-1) 0) := by
  intro σ h
  have hn := hT.2.2.2.2.2.1
  have hP := hX.2.2.1
  refine fs_enterC (by decide) (by simp [fs_ok]) (Nat.le_of_ble_eq_true rfl) (fun d => S_X8_bestDay_0 ?_)
  show T_X8_bestDay_0 g d _ [.ref 0, .int (nI k), .null, .null, .null, .null] [] _
  simp only [T_X8_bestDay_0, fi_const, fi_iload, fi_aload, fi_istore, fi_astore, fi_iinc, fi_bin, fi_div, fi_un, fi_dup, fi_dup2, fi_pop, fi_if, fi_cmp, fi_getf, fi_putf, fi_putr, fi_ald, fi_ast, fi_alen, fi_iret, fi_zret, fi_vret, fi_cut, fi_no, fi_s0, fi_s1, fi_s2, fi_s3, fi_s4, fi_v0, fi_v1, fi_v2, fi_v3, fi_v4, fi_v5, fi_n0, fi_n1, fi_n2, fi_mm, fi_stat, fi_alds, fi_tsw, List.getElem?_cons_zero, List.getElem?_cons_succ, List.set_cons_zero, List.set_cons_succ, List.length_cons, List.length_nil, Option.toList_some, Option.toList_none, List.cons_append, List.nil_append, Value.category, true_and, k_0, k_1, k_2, k_3, k_4, false_implies, true_implies, reduceCtorEq]
  simp only [hX.1, hP.1, fi_const, fi_iload, fi_aload, fi_istore, fi_astore, fi_iinc, fi_bin, fi_div, fi_un, fi_dup, fi_dup2, fi_pop, fi_if, fi_cmp, fi_getf, fi_putf, fi_putr, fi_ald, fi_ast, fi_alen, fi_iret, fi_zret, fi_vret, fi_cut, fi_no, fi_s0, fi_s1, fi_s2, fi_s3, fi_s4, fi_v0, fi_v1, fi_v2, fi_v3, fi_v4, fi_v5, fi_n0, fi_n1, fi_n2, fi_mm, fi_stat, fi_alds, fi_tsw, List.getElem?_cons_zero, List.getElem?_cons_succ, List.set_cons_zero, List.set_cons_succ, List.length_cons, List.length_nil, Option.toList_some, Option.toList_none, List.cons_append, List.nil_append, Value.category, true_and, k_0, k_1, k_2, k_3, k_4, false_implies, true_implies, reduceCtorEq, h.1.2.2]
  refine ⟨by decide, (c_requireIndex hk (by omega)).mono ?_⟩
  rintro r M' ⟨rfl, rfl⟩
  simp only [fi_const, fi_iload, fi_aload, fi_istore, fi_astore, fi_iinc, fi_bin, fi_div, fi_un, fi_dup, fi_dup2, fi_pop, fi_if, fi_cmp, fi_getf, fi_putf, fi_putr, fi_ald, fi_ast, fi_alen, fi_iret, fi_zret, fi_vret, fi_cut, fi_no, fi_s0, fi_s1, fi_s2, fi_s3, fi_s4, fi_v0, fi_v1, fi_v2, fi_v3, fi_v4, fi_v5, fi_n0, fi_n1, fi_n2, fi_mm, fi_stat, fi_alds, fi_tsw, List.getElem?_cons_zero, List.getElem?_cons_succ, List.set_cons_zero, List.set_cons_succ, List.length_cons, List.length_nil, Option.toList_some, Option.toList_none, List.cons_append, List.nil_append, Value.category, true_and, k_0, k_1, k_2, k_3, k_4, false_implies, true_implies, reduceCtorEq]
  exact l_bestDay hX hT hN hk 12 0 (-1) 0 σ _ rfl h
end PQ4
