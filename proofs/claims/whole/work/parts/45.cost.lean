/-! ===== costs are small ===== -/
theorem mvM_le {pl : Nat → Int32} : ∀ n k la c, ∃ x, x ≤ c + n ∧ mvM pl n k la (nI c) = nI x
  | 0, k, la, c => ⟨c, by omega, rfl⟩
  | n + 1, k, la, c => by
    simp only [mvM]
    split
    · obtain ⟨x, h1, h2⟩ := mvM_le (pl := pl) n (k + 1) la c
      exact ⟨x, by omega, h2⟩
    · split
      · obtain ⟨x, h1, h2⟩ := mvM_le (pl := pl) n (k + 1) (pl k) c
        exact ⟨x, by omega, h2⟩
      · split
        · obtain ⟨x, h1, h2⟩ := mvM_le (pl := pl) n (k + 1) (pl k) c
          exact ⟨x, by omega, h2⟩
        · obtain ⟨x, h1, h2⟩ := mvM_le (pl := pl) n (k + 1) (pl k) (c + 1)
          rw [nI_1]
          exact ⟨x, by omega, h2⟩
theorem rtM_le {pl ra : Nat → Int32} {nL B : Nat} (hL : nL ≤ 4) (hp : ∀ e, pl e = -1 ∨ ∃ l, l < nL ∧ pl e = nI l) (hr : ∀ l, l < nL → ∃ x, x ≤ B ∧ ra l = nI x) : ∀ n k s, ∃ x, x ≤ s + n * B ∧ rtM pl ra n k (nI s) = nI x
  | 0, k, s => ⟨s, by omega, rfl⟩
  | n + 1, k, s => by
    simp only [rtM]
    rcases hp k with q | ⟨l, hl, q⟩
    · rw [if_pos q]
      obtain ⟨x, h1, h2⟩ := rtM_le hL hp hr n (k + 1) s
      exact ⟨x, by rw [Nat.add_mul]; omega, h2⟩
    · obtain ⟨y, hy, ey⟩ := hr l hl
      rw [if_neg (by rw [q]; exact m1n (by omega)), q, nI_clamp (by omega), ey, nI_add]
      obtain ⟨x, h1, h2⟩ := rtM_le hL hp hr n (k + 1) (s + y)
      exact ⟨x, by rw [Nat.add_mul]; omega, h2⟩
theorem paF_le {p : Nat → Int32} {B : Nat} : ∀ n k s, (∀ a, k ≤ a → a < k + n → ∃ x, x ≤ B ∧ p a = nI x) → ∃ x, x ≤ s + n * B ∧ paF p n k (nI s) = nI x
  | 0, k, s, _ => ⟨s, by omega, rfl⟩
  | n + 1, k, s, h => by
    obtain ⟨y, hy, ey⟩ := h k (by omega) (by omega)
    simp only [paF]
    rw [ey, nI_add]
    obtain ⟨x, h1, h2⟩ := paF_le n (k + 1) (s + y) (fun a h1 h2 => h a (by omega) (by omega))
    refine ⟨x, ?_, h2⟩
    rw [Nat.add_mul]
    omega
theorem heM_le {f : Nat → Bool} {x c D : Nat} (hx : x ≤ 9999) (hc : c ≤ 100) : ∃ y, y ≤ 119988 ∧ heM (nI x) (nI c) (nI D) f = nI y := by
  unfold heM dsM
  have h1 := ct_le (fun k => decide (stM f (gpB f).1 (gpB f).2 (nI D) k = 2)) 12
  have h2 : x * c ≤ 999900 := Nat.le_trans (Nat.mul_le_mul hx hc) (by decide)
  rw [pk_mul, show (100 : Int32) = nI 100 from rfl, pk_div (by omega) (by decide) (by decide), pk_mul]
  refine ⟨_, ?_, rfl⟩
  have h3 : x * c / 100 ≤ 9999 := by omega
  exact Nat.le_trans (Nat.mul_le_mul h1 h3) (by decide)
theorem prM_le {f : Nat → Bool} {x c D : Nat} (hx : x ≤ 9999) (hc : c ≤ 100) : ∃ y, y ≤ 239976 ∧ prM (nI x) (nI c) (nI D) f = nI y := by
  unfold prM
  obtain ⟨y, hy, ey⟩ := heM_le (f := f) (D := D) hx hc
  rw [ey]
  unfold dsM
  have h1 := ct_le (fun k => decide (stM f (gpB f).1 (gpB f).2 (nI D) k = 1)) 12
  rw [pk_mul, nI_add]
  refine ⟨_, ?_, rfl⟩
  have h3 := Nat.mul_le_mul h1 hx
  omega
section PN4
variable {g : fs_G} {d : Nat} {S : List fs_Sh} {fr : Bool} {σ : Nat → Nat → Int32} {τ : Nat → Nat → Int64} {V : Vt} {nL nA nS kp nb : Nat}
theorem coV_le (hT : okT V nL nA nS) (hN : okN V nS (V 4)) (dy : Nat → Int32) : ∃ c, c ≤ 1679844 ∧ coV V nA nS dy = nI c := by
  obtain ⟨-, -, -, hL, hA, hn, -, -, -, -, -, hr, hf⟩ := id hT
  obtain ⟨-, ⟨m, hm, em⟩, ⟨c, hc, ec⟩, ⟨D, hD1, hD2, eD⟩, -⟩ := hN
  unfold coV cmM
  rw [em, ec, eD]
  obtain ⟨x, hx, ex⟩ := mvM_le (pl := plF dy (v_lo V) nS) 12 0 (-1) 0
  rw [show (0 : Int32) = nI 0 from rfl, ex, pk_mul]
  obtain ⟨y, hy, ey⟩ := rtM_le (pl := plF dy (v_lo V) nS) (ra := fr_ (V 2) 4) (B := 9999) hL (fun e => by
    rcases pl_any hT dy e with ⟨q, -⟩ | ⟨q, -⟩
    · exact Or.inl q
    · exact Or.inr q) hr 12 0 (x * m)
  rw [ey]
  obtain ⟨z, hz, ez⟩ := paF_le (p := fun a => prM (fr_ (V 2) 18 a) (nI c) (nI D) (wkF (fun e => caF dy (v_ca V) e nS) a)) (B := 239976) nA 0 y (fun a _ ha => by
    obtain ⟨f, hf1, ef⟩ := hf a (by omega)
    show ∃ x, x ≤ 239976 ∧ prM (V 2 (18 + a)) _ _ _ = nI x
    rw [ef]
    exact prM_le hf1 hc)
  refine ⟨z, ?_, ez⟩
  have h1 : x * m ≤ 12 * 9999 := Nat.mul_le_mul (by omega) hm
  have h2 : nA * 239976 ≤ 6 * 239976 := Nat.mul_le_mul_right _ hA
  omega
theorem coV_n5 (hT : okT V nL nA nS) (hN : okN V nS (V 4)) (dy : Nat → Int32) : ¬ coV V nA nS dy = -5 := by
  obtain ⟨c, hc, ec⟩ := coV_le hT hN dy
  rw [ec]
  intro z
  have := nI_pos (n := c) (by omega)
  rw [z] at this
  exact this (by decide)
theorem l_bestDayM (hM : shM S 56) (hT : okT V nL nA nS) (hN : okN V nS (V 4)) {k : Nat} (hk : k < nS) : ∀ n e b l σ z, e + n = 12 → IM σ V kp nb → fs_R g m_X9_bestDay d (0, 0) 21 [.ref 56, .int (nI k), .int b, .int l, .int (nI e), z] [] ((S, fr), σ, τ) (fun r M' => r = some (.int (bdF (reV V nS k) (cwW V nA nS k) n e b l)) ∧ ∃ σ', M' = ((S, fr), σ', τ) ∧ csS σ σ' 56)
  | 0, e, b, l, σ, z, he, h => by
    refine S_X9_bestDay_21 ?_
    simp only [T_X9_bestDay_21, fi_const, fi_iload, fi_aload, fi_istore, fi_astore, fi_iinc, fi_bin, fi_div, fi_un, fi_dup, fi_dup2, fi_pop, fi_if, fi_cmp, fi_getf, fi_putf, fi_putr, fi_ald, fi_ast, fi_alen, fi_iret, fi_zret, fi_vret, fi_cut, fi_no, fi_s0, fi_s1, fi_s2, fi_s3, fi_s4, fi_v0, fi_v1, fi_v2, fi_v3, fi_v4, fi_v5, fi_n0, fi_n1, fi_n2, fi_mm, fi_stat, fi_alds, fi_tsw, List.getElem?_cons_zero, List.getElem?_cons_succ, List.set_cons_zero, List.set_cons_succ, List.length_cons, List.length_nil, Option.toList_some, Option.toList_none, List.cons_append, List.nil_append, Value.category, true_and, k_0, k_1, k_2, k_3, k_4, false_implies, true_implies, reduceCtorEq]
    refine pk_le 12 e (fun _ => ?_) (fun z => by omega)
    exact ⟨rfl, σ, rfl, csS.rf⟩
  | n + 1, e, b, l, σ, z, he, h => by
    have fin : ∀ σ' b' l' z', csS σ σ' 56 → bdF (reV V nS k) (cwW V nA nS k) (n + 1) e b l = bdF (reV V nS k) (cwW V nA nS k) n (e + 1) b' l' → fs_R g m_X9_bestDay d (0, 0) 21 [.ref 56, .int (nI k), .int b', .int l', .int (nI (e + 1)), z'] [] ((S, fr), σ', τ) (fun r M' => r = some (.int (bdF (reV V nS k) (cwW V nA nS k) (n + 1) e b l)) ∧ ∃ σ', M' = ((S, fr), σ', τ) ∧ csS σ σ' 56) := by
      intro σ' b' l' z' hs e1
      refine fs_R_mono (l_bestDayM hM hT hN hk n (e + 1) b' l' σ' z' (by omega) (cs_IM h hs).1) ?_
      rintro r M' ⟨rfl, σ2, rfl, hs2⟩
      exact ⟨by rw [e1], σ2, rfl, hs.tr hs2⟩
    refine S_X9_bestDay_21 ?_
    simp only [T_X9_bestDay_21, fi_const, fi_iload, fi_aload, fi_istore, fi_astore, fi_iinc, fi_bin, fi_div, fi_un, fi_dup, fi_dup2, fi_pop, fi_if, fi_cmp, fi_getf, fi_putf, fi_putr, fi_ald, fi_ast, fi_alen, fi_iret, fi_zret, fi_vret, fi_cut, fi_no, fi_s0, fi_s1, fi_s2, fi_s3, fi_s4, fi_v0, fi_v1, fi_v2, fi_v3, fi_v4, fi_v5, fi_n0, fi_n1, fi_n2, fi_mm, fi_stat, fi_alds, fi_tsw, List.getElem?_cons_zero, List.getElem?_cons_succ, List.set_cons_zero, List.set_cons_succ, List.length_cons, List.length_nil, Option.toList_some, Option.toList_none, List.cons_append, List.nil_append, Value.category, true_and, k_0, k_1, k_2, k_3, k_4, false_implies, true_implies, reduceCtorEq]
    refine pk_le 12 e (fun z => by omega) (fun _ => ⟨by decide, ⟨_, hM.1⟩, (c_costIf hM hT h hk).mono ?_⟩)
    rintro r M' ⟨rfl, σ', rfl, hs⟩
    simp only [fi_const, fi_iload, fi_aload, fi_istore, fi_astore, fi_iinc, fi_bin, fi_div, fi_un, fi_dup, fi_dup2, fi_pop, fi_if, fi_cmp, fi_getf, fi_putf, fi_putr, fi_ald, fi_ast, fi_alen, fi_iret, fi_zret, fi_vret, fi_cut, fi_no, fi_s0, fi_s1, fi_s2, fi_s3, fi_s4, fi_v0, fi_v1, fi_v2, fi_v3, fi_v4, fi_v5, fi_n0, fi_n1, fi_n2, fi_mm, fi_stat, fi_alds, fi_tsw, List.getElem?_cons_zero, List.getElem?_cons_succ, List.set_cons_zero, List.set_cons_succ, List.length_cons, List.length_nil, Option.toList_some, Option.toList_none, List.cons_append, List.nil_append, Value.category, true_and, k_0, k_1, k_2, k_3, k_4, false_implies, true_implies, reduceCtorEq, nI_1]
    by_cases q : reV V nS k e = 0
    · rw [if_pos q]
      refine ⟨fun q1 => absurd q1 (coV_n5 hT hN _), fun _ => ⟨fun q1 => ?_, fun q1 => ⟨fun q2 => ?_, fun q2 => ?_⟩⟩⟩
      · exact fin σ' _ _ _ hs (by rw [bdF, if_pos ⟨q, Or.inl q1⟩])
      · exact fin σ' _ _ _ hs (by rw [bdF, if_pos ⟨q, Or.inr q2⟩])
      · exact fin σ' _ _ _ hs (by rw [bdF, if_neg (fun z => z.2.elim q1 q2)])
    · rw [if_neg q]
      refine ⟨fun _ => fin σ' _ _ _ hs (by rw [bdF, if_neg (fun z => q z.1)]), fun q1 => absurd rfl q1⟩
end PN4
