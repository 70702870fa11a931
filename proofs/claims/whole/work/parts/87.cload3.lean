/-! ===== load and feed of the class ===== -/
theorem s_congr {V V' : Vt} {nA nS : Nat} (e2 : V' 2 = V 2) (e4 : V' 4 = V 4) : nDV V' nS = nDV V nS ∧ owV V' nS = owV V nS ∧ bsV V' nA nS = bsV V nA nS ∧ bcV V' nA nS = bcV V nA nS := by
  have e : ocV V' nS = ocV V nS := by funext e; unfold ocV; simp only [v_dy, e4]
  have e1 : nDV V' nS = nDV V nS := by unfold nDV; rw [e]
  have e3 : owV V' nS = owV V nS := by unfold owV; rw [e]
  have e5 : ∀ r, stR V' nS r = stR V nS r := fun r => by funext j; unfold stR; rw [e1, e3, e4]
  have e6 : gdV V' nS = gdV V nS := by funext x; unfold gdV; simp only [e1, e5, v_ni, v_ca, e2]
  have e7 : ccV V' nA nS = ccV V nA nS := by funext x; unfold ccV coV; simp only [e1, e5, v_lo, v_ca, e2, e4]
  have e8 : bsV V' nA nS = bsV V nA nS := by unfold bsV; rw [e6, e7, e1]
  refine ⟨e1, e3, e8, ?_⟩
  unfold bcV
  rw [e1, e8, e7]
theorem srch_congr {σ : Nat → Nat → Int32} {V V' : Vt} {nA nS : Nat} (e2 : V' 2 = V 2) (e4 : V' 4 = V 4) (h : srch σ V nA nS) : srch σ V' nA nS := by
  obtain ⟨e1, e3, e8, e9⟩ := s_congr (nA := nA) (nS := nS) e2 e4
  unfold srch srK at h ⊢
  rw [e1, e3, e8, e9]
  exact h
theorem okV_le {V : Vt} {nL nA nS kp nb p : Nat} (h : okV V nL nA nS kp nb) : okV (leV V p) nL nA nS kp 0 := by
  obtain ⟨hT, h4, h9, hk, hP, h2, hb, hB⟩ := h
  have e2 := leV_ne V p (show 2 ≠ 0 by decide)
  refine ⟨okT_ch e2 hT, by rw [leV_ne V p (show 4 ≠ 0 by decide)]; exact okN_ch e2 h4, by simpa [leV] using h9, hk, fun i hi => ?_, by simp [leV]; rfl, Nat.zero_le _, fun i hi => absurd hi (Nat.not_lt_zero i)⟩
  rw [leV_ne V p (show 7 ≠ 0 by decide)]
  exact okN_ch e2 (hP i hi)
theorem okV_ld {V : Vt} {Z : Zt} (h : okZ Z) : okV (ldV V Z.1 Z.2.1) Z.2.2.1.1 Z.2.2.1.2.1 Z.2.2.1.2.2 0 0 := by
  have e2 : ldV V Z.1 Z.2.1 2 = zV Z.1 Z.2.1 2 := by rw [ldV_2, zV_2]
  exact ⟨okT_ch e2 h.1, by rw [ldV_4]; exact okN_ch e2 h.2, by simp [ldV]; rfl, Nat.zero_le _, fun i hi => absurd hi (Nat.not_lt_zero i), by simp [ldV]; rfl, Nat.zero_le _, fun i hi => absurd hi (Nat.not_lt_zero i)⟩
/-- a change of the class, with all counts -/
def chgD (g : fs_G) (S : List fs_Sh) (fr : Bool) (τ : Nat → Nat → Int64) (V : Vt) (nL nA nS kp nb : Nat) (μ : fs_I) (av : List Value) (x : Int32) (V' : Vt) (nL' nA' nS' kp' nb' : Nat) : Prop := ∀ σ, IC σ V nL nA nS kp nb → fs_Ct g μ av ((S, fr), σ, τ) (fun r M' => r = some (.int x) ∧ ∃ σ', M' = ((S, fr), σ', τ) ∧ IC σ' V' nL' nA' nS' kp' nb' ∧ ∀ a, 56 ≤ a → σ' a = σ a)
section PL7
variable {g : fs_G} {d : Nat} {S : List fs_Sh} {fr : Bool} {σ : Nat → Nat → Int32} {τ : Nat → Nat → Int64} {V : Vt} {nL nA nS kp nb : Nat} {Z : Zt}
theorem bN_ok (hV : okV V nL nA nS kp nb) {i : Nat} (hi : i < nb) : bN V i < 256 ∧ V 1 i = nI (bN V i) := by
  obtain ⟨x, h1, h2⟩ := hV.2.2.2.2.2.2.2 i hi
  unfold bN
  rw [h2, nI_clamp (by omega)]
  exact ⟨h1, rfl⟩
theorem IC.bt (h : IC σ V nL nA nS kp nb) (hV : okV V nL nA nS kp nb) {i : Nat} (hi : i < nb) : σ 1 i = sB (bN V i) := by
  rw [h.2.2.2.2.2.2.2.2.2.2.1 i hi, (bN_ok hV hi).2]
  rfl
theorem k_load_2 (hX : shX S) {x : Int32} (hx : x < 0 ∨ nI nb < x) : askC g S fr τ V nL nA nS kp nb m_X8_load [.ref 0, .int x] (-2) := by
  intro σ h
  have h0 := h.2.2.2.2.2.2.2.2.2.1
  refine fs_enterC (by decide) (by simp [fs_ok]) (Nat.le_of_ble_eq_true rfl) (fun d => S_X8_load_0 ?_)
  show T_X8_load_0 g d _ [.ref 0, .int x, .null] [] _
  simp only [T_X8_load_0, fi_const, fi_iload, fi_aload, fi_istore, fi_astore, fi_iinc, fi_bin, fi_div, fi_un, fi_dup, fi_dup2, fi_pop, fi_if, fi_cmp, fi_getf, fi_putf, fi_putr, fi_ald, fi_ast, fi_alen, fi_iret, fi_zret, fi_vret, fi_cut, fi_no, fi_s0, fi_s1, fi_s2, fi_s3, fi_s4, fi_v0, fi_v1, fi_v2, fi_v3, fi_v4, fi_v5, fi_n0, fi_n1, fi_n2, fi_mm, fi_stat, fi_alds, fi_tsw, List.getElem?_cons_zero, List.getElem?_cons_succ, List.set_cons_zero, List.set_cons_succ, List.length_cons, List.length_nil, Option.toList_some, Option.toList_none, List.cons_append, List.nil_append, Value.category, true_and, k_0, k_1, k_2, k_3, k_4, false_implies, true_implies, reduceCtorEq]
  simp only [fi_const, fi_iload, fi_aload, fi_istore, fi_astore, fi_iinc, fi_bin, fi_div, fi_un, fi_dup, fi_dup2, fi_pop, fi_if, fi_cmp, fi_getf, fi_putf, fi_putr, fi_ald, fi_ast, fi_alen, fi_iret, fi_zret, fi_vret, fi_cut, fi_no, fi_s0, fi_s1, fi_s2, fi_s3, fi_s4, fi_v0, fi_v1, fi_v2, fi_v3, fi_v4, fi_v5, fi_n0, fi_n1, fi_n2, fi_mm, fi_stat, fi_alds, fi_tsw, List.getElem?_cons_zero, List.getElem?_cons_succ, List.set_cons_zero, List.set_cons_succ, List.length_cons, List.length_nil, Option.toList_some, Option.toList_none, List.cons_append, List.nil_append, Value.category, true_and, k_0, k_1, k_2, k_3, k_4, false_implies, true_implies, reduceCtorEq, hX.1, h0]
  refine ⟨fun z => ⟨σ, rfl, h, fun _ _ => rfl⟩, fun z => ⟨fun z2 => ?_, fun z2 => ⟨σ, rfl, h, fun _ _ => rfl⟩⟩⟩
  rcases hx with w | w
  · exact absurd w z
  · exact absurd z2 (by rw [Int32.not_le]; exact w)
theorem k_load_e (hX : shX S) (hL : shL S) (hV : okV V nL nA nS kp nb) {n : Nat} (hn : n ≤ nb) {e : Er} (he : pTxt (bN V) n (n + 1) 0 (Z0 (V 2) (V 4)) 0 = .inl e) : chgD g S fr τ V nL nA nS kp nb m_X8_load [.ref 0, .int (nI n)] e.1 (leV V e.2) nL nA nS kp 0 := by
  intro σ h
  have hb := hV.2.2.2.2.2.2.1
  have h0 := h.2.2.2.2.2.2.2.2.2.1
  refine fs_enterC (by decide) (by simp [fs_ok]) (Nat.le_of_ble_eq_true rfl) (fun d => S_X8_load_0 ?_)
  show T_X8_load_0 g d _ [.ref 0, .int (nI n), .null] [] _
  simp only [T_X8_load_0, fi_const, fi_iload, fi_aload, fi_istore, fi_astore, fi_iinc, fi_bin, fi_div, fi_un, fi_dup, fi_dup2, fi_pop, fi_if, fi_cmp, fi_getf, fi_putf, fi_putr, fi_ald, fi_ast, fi_alen, fi_iret, fi_zret, fi_vret, fi_cut, fi_no, fi_s0, fi_s1, fi_s2, fi_s3, fi_s4, fi_v0, fi_v1, fi_v2, fi_v3, fi_v4, fi_v5, fi_n0, fi_n1, fi_n2, fi_mm, fi_stat, fi_alds, fi_tsw, List.getElem?_cons_zero, List.getElem?_cons_succ, List.set_cons_zero, List.set_cons_succ, List.length_cons, List.length_nil, Option.toList_some, Option.toList_none, List.cons_append, List.nil_append, Value.category, true_and, k_0, k_1, k_2, k_3, k_4, false_implies, true_implies, reduceCtorEq]
  simp only [fi_const, fi_iload, fi_aload, fi_istore, fi_astore, fi_iinc, fi_bin, fi_div, fi_un, fi_dup, fi_dup2, fi_pop, fi_if, fi_cmp, fi_getf, fi_putf, fi_putr, fi_ald, fi_ast, fi_alen, fi_iret, fi_zret, fi_vret, fi_cut, fi_no, fi_s0, fi_s1, fi_s2, fi_s3, fi_s4, fi_v0, fi_v1, fi_v2, fi_v3, fi_v4, fi_v5, fi_n0, fi_n1, fi_n2, fi_mm, fi_stat, fi_alds, fi_tsw, List.getElem?_cons_zero, List.getElem?_cons_succ, List.set_cons_zero, List.set_cons_succ, List.length_cons, List.length_nil, Option.toList_some, Option.toList_none, List.cons_append, List.nil_append, Value.category, true_and, k_0, k_1, k_2, k_3, k_4, false_implies, true_implies, reduceCtorEq, hX.1, h0]
  refine ⟨fun z => absurd (nI_pos' (show n < 2 ^ 31 by omega)) (by rw [Int32.not_le]; exact z), fun _ => pk_le n nb (fun _ => ?_) (fun z => by omega)⟩
  refine ⟨by decide, ⟨_, hL.1⟩, (c_readText hL (by omega) (b := bN V) (fun i hi => ⟨(bN_ok hV (by omega)).1, by rw [fs_u_ne (by decide)]; exact h.bt hV (by omega)⟩) (V 2) (V 4)).mono ?_⟩
  rintro r M' ⟨σ1, rfl, f1, f2⟩
  rw [he] at f2
  obtain ⟨rfl, f3⟩ := f2
  have hneg := (erC_neg (pTxt_er _ _ _ _ he)).1
  simp only [fi_const, fi_iload, fi_aload, fi_istore, fi_astore, fi_iinc, fi_bin, fi_div, fi_un, fi_dup, fi_dup2, fi_pop, fi_if, fi_cmp, fi_getf, fi_putf, fi_putr, fi_ald, fi_ast, fi_alen, fi_iret, fi_zret, fi_vret, fi_cut, fi_no, fi_s0, fi_s1, fi_s2, fi_s3, fi_s4, fi_v0, fi_v1, fi_v2, fi_v3, fi_v4, fi_v5, fi_n0, fi_n1, fi_n2, fi_mm, fi_stat, fi_alds, fi_tsw, List.getElem?_cons_zero, List.getElem?_cons_succ, List.set_cons_zero, List.set_cons_succ, List.length_cons, List.length_nil, Option.toList_some, Option.toList_none, List.cons_append, List.nil_append, Value.category, true_and, k_0, k_1, k_2, k_3, k_4, false_implies, true_implies, reduceCtorEq, hX.1, hL.1, f3.2]
  refine ⟨fun z => absurd z hneg, fun _ => ⟨_, rfl, ?_, fun a ha => by rw [fs_u_ne (by omega), f1 a (by omega), fs_u_ne (by omega)]⟩⟩
  have c : ∀ a, a ≠ 0 → a < 26 ∨ 45 < a → fs_u σ1 0 2 (nI e.2) a = σ a := fun a h1 h2 => by rw [fs_u_ne h1, f1 a h2, fs_u_ne h1]
  have c0 : fs_u σ1 0 2 (nI e.2) 0 1 = 0 := by
    simp only [fs_u]; rw [if_neg (by decide), f1 0 (by omega)]; simp [fs_u]
  obtain ⟨h1, h2, h3, h4, h5, h6, h7, h8, h9, h10, h11, h12, h13⟩ := h
  unfold IC
  simp only [v_lo, v_le, v_ni, v_ca, v_dy, leV_ne V e.2 (show 2 ≠ 0 by decide), leV_ne V e.2 (show 4 ≠ 0 by decide), leV_ne V e.2 (show 7 ≠ 0 by decide)]
  refine ⟨by rw [c 2 (by decide) (by omega)]; exact h1, by rw [c 3 (by decide) (by omega), c 4 (by decide) (by omega), c 5 (by decide) (by omega)]; exact h2, by rw [c 6 (by decide) (by omega), c 7 (by decide) (by omega)]; exact h3, by rw [c 8 (by decide) (by omega), c 9 (by decide) (by omega), c 10 (by decide) (by omega), c 11 (by decide) (by omega)]; exact h4, by rw [c 12 (by decide) (by omega)]; exact h5, by rw [c 13 (by decide) (by omega)]; exact h6, ?_, by rw [c 46 (by decide) (by omega)]; exact h8, by rw [c 47 (by decide) (by omega)]; exact h9, c0, fun i hi => absurd hi (Nat.not_lt_zero i), by rw [u_eq]; simp [leV], ?_⟩
  · unfold tab at h7 ⊢
    rw [c 12 (by decide) (by omega), c (14 + 1) (by decide) (by omega), c (14 + 2) (by decide) (by omega), c (14 + 3) (by decide) (by omega), c (14 + 4) (by decide) (by omega), c (14 + 5) (by decide) (by omega), c (2 + 6) (by decide) (by omega), c (2 + 8) (by decide) (by omega), c (2 + 7) (by decide) (by omega), c (2 + 9) (by decide) (by omega)]
    exact h7
  · exact srch_congr (leV_ne V e.2 (by decide)) (leV_ne V e.2 (by decide)) (h13.keep (fun a h1 h2 => c a (by omega) (by omega)))
theorem k_load_z (hX : shX S) (hS : shS S) (hL : shL S) (hV : okV V nL nA nS kp nb) {n : Nat} (hn : n ≤ nb) {c : Nat} (he : pTxt (bN V) n (n + 1) 0 (Z0 (V 2) (V 4)) 0 = .inr (Z, c)) : chgD g S fr τ V nL nA nS kp nb m_X8_load [.ref 0, .int (nI n)] (nI c) (ldV V Z.1 Z.2.1) Z.2.2.1.1 Z.2.2.1.2.1 Z.2.2.1.2.2 0 0 := by
  intro σ h
  have hb := hV.2.2.2.2.2.2.1
  have h0 := h.2.2.2.2.2.2.2.2.2.1
  have hP := hX.2.2.1
  have hH := hX.2.2.2.2.2.1
  refine fs_enterC (by decide) (by simp [fs_ok]) (Nat.le_of_ble_eq_true rfl) (fun d => S_X8_load_0 ?_)
  show T_X8_load_0 g d _ [.ref 0, .int (nI n), .null] [] _
  simp only [T_X8_load_0, fi_const, fi_iload, fi_aload, fi_istore, fi_astore, fi_iinc, fi_bin, fi_div, fi_un, fi_dup, fi_dup2, fi_pop, fi_if, fi_cmp, fi_getf, fi_putf, fi_putr, fi_ald, fi_ast, fi_alen, fi_iret, fi_zret, fi_vret, fi_cut, fi_no, fi_s0, fi_s1, fi_s2, fi_s3, fi_s4, fi_v0, fi_v1, fi_v2, fi_v3, fi_v4, fi_v5, fi_n0, fi_n1, fi_n2, fi_mm, fi_stat, fi_alds, fi_tsw, List.getElem?_cons_zero, List.getElem?_cons_succ, List.set_cons_zero, List.set_cons_succ, List.length_cons, List.length_nil, Option.toList_some, Option.toList_none, List.cons_append, List.nil_append, Value.category, true_and, k_0, k_1, k_2, k_3, k_4, false_implies, true_implies, reduceCtorEq]
  simp only [fi_const, fi_iload, fi_aload, fi_istore, fi_astore, fi_iinc, fi_bin, fi_div, fi_un, fi_dup, fi_dup2, fi_pop, fi_if, fi_cmp, fi_getf, fi_putf, fi_putr, fi_ald, fi_ast, fi_alen, fi_iret, fi_zret, fi_vret, fi_cut, fi_no, fi_s0, fi_s1, fi_s2, fi_s3, fi_s4, fi_v0, fi_v1, fi_v2, fi_v3, fi_v4, fi_v5, fi_n0, fi_n1, fi_n2, fi_mm, fi_stat, fi_alds, fi_tsw, List.getElem?_cons_zero, List.getElem?_cons_succ, List.set_cons_zero, List.set_cons_succ, List.length_cons, List.length_nil, Option.toList_some, Option.toList_none, List.cons_append, List.nil_append, Value.category, true_and, k_0, k_1, k_2, k_3, k_4, false_implies, true_implies, reduceCtorEq, hX.1, h0]
  refine ⟨fun z => absurd (nI_pos' (show n < 2 ^ 31 by omega)) (by rw [Int32.not_le]; exact z), fun _ => pk_le n nb (fun _ => ?_) (fun z => by omega)⟩
  refine ⟨by decide, ⟨_, hL.1⟩, (c_readText hL (by omega) (b := bN V) (fun i hi => ⟨(bN_ok hV (by omega)).1, by rw [fs_u_ne (by decide)]; exact h.bt hV (by omega)⟩) (V 2) (V 4)).mono ?_⟩
  rintro r M' ⟨σ1, rfl, f1, f2⟩
  rw [he] at f2
  obtain ⟨rfl, f3, f4, f5⟩ := f2
  simp only [fi_const, fi_iload, fi_aload, fi_istore, fi_astore, fi_iinc, fi_bin, fi_div, fi_un, fi_dup, fi_dup2, fi_pop, fi_if, fi_cmp, fi_getf, fi_putf, fi_putr, fi_ald, fi_ast, fi_alen, fi_iret, fi_zret, fi_vret, fi_cut, fi_no, fi_s0, fi_s1, fi_s2, fi_s3, fi_s4, fi_v0, fi_v1, fi_v2, fi_v3, fi_v4, fi_v5, fi_n0, fi_n1, fi_n2, fi_mm, fi_stat, fi_alds, fi_tsw, List.getElem?_cons_zero, List.getElem?_cons_succ, List.set_cons_zero, List.set_cons_succ, List.length_cons, List.length_nil, Option.toList_some, Option.toList_none, List.cons_append, List.nil_append, Value.category, true_and, k_0, k_1, k_2, k_3, k_4, false_implies, true_implies, reduceCtorEq, hX.1, hL.1]
  refine ⟨fun _ => ?_, fun z => absurd (nI_pos' (by omega)) z⟩
  have hDC : DC (fs_u σ1 0 2 (-1)) Z := f4.keep (fun a h1 _ => fs_u_ne (by omega)) (by rw [fs_u_ne (by decide)]) (by rw [fs_u_ne (by decide)])
  refine ⟨by decide, ⟨_, hP.1⟩, (c_copyFrom hX hL f5 hDC).mono ?_⟩
  rintro r M' ⟨rfl, σ2, rfl, s1, s2, s3, s4, s5, s6, s7⟩
  have hc1 : fs_Ct g m_X1_forgetAll [.ref 46] ((S, fr), σ2, τ) (fun r M' => r = none ∧ ((S, fr), fs_u σ2 46 0 0, τ) = M') := by
    refine fs_enterC (by decide) (by simp [fs_ok]) (Nat.le_of_ble_eq_true rfl) (fun d => S_X1_forgetAll_0 ?_)
    show T_X1_forgetAll_0 g d _ [.ref 46] [] _
    simp only [T_X1_forgetAll_0, fi_const, fi_iload, fi_aload, fi_istore, fi_astore, fi_iinc, fi_bin, fi_div, fi_un, fi_dup, fi_dup2, fi_pop, fi_if, fi_cmp, fi_getf, fi_putf, fi_putr, fi_ald, fi_ast, fi_alen, fi_iret, fi_zret, fi_vret, fi_cut, fi_no, fi_s0, fi_s1, fi_s2, fi_s3, fi_s4, fi_v0, fi_v1, fi_v2, fi_v3, fi_v4, fi_v5, fi_n0, fi_n1, fi_n2, fi_mm, fi_stat, fi_alds, fi_tsw, List.getElem?_cons_zero, List.getElem?_cons_succ, List.set_cons_zero, List.set_cons_succ, List.length_cons, List.length_nil, Option.toList_some, Option.toList_none, List.cons_append, List.nil_append, Value.category, true_and, k_0, k_1, k_2, k_3, k_4, false_implies, true_implies, reduceCtorEq]
    simp only [fi_const, fi_iload, fi_aload, fi_istore, fi_astore, fi_iinc, fi_bin, fi_div, fi_un, fi_dup, fi_dup2, fi_pop, fi_if, fi_cmp, fi_getf, fi_putf, fi_putr, fi_ald, fi_ast, fi_alen, fi_iret, fi_zret, fi_vret, fi_cut, fi_no, fi_s0, fi_s1, fi_s2, fi_s3, fi_s4, fi_v0, fi_v1, fi_v2, fi_v3, fi_v4, fi_v5, fi_n0, fi_n1, fi_n2, fi_mm, fi_stat, fi_alds, fi_tsw, List.getElem?_cons_zero, List.getElem?_cons_succ, List.set_cons_zero, List.set_cons_succ, List.length_cons, List.length_nil, Option.toList_some, Option.toList_none, List.cons_append, List.nil_append, Value.category, true_and, k_0, k_1, k_2, k_3, k_4, false_implies, true_implies, reduceCtorEq, hH]
  simp only [fi_const, fi_iload, fi_aload, fi_istore, fi_astore, fi_iinc, fi_bin, fi_div, fi_un, fi_dup, fi_dup2, fi_pop, fi_if, fi_cmp, fi_getf, fi_putf, fi_putr, fi_ald, fi_ast, fi_alen, fi_iret, fi_zret, fi_vret, fi_cut, fi_no, fi_s0, fi_s1, fi_s2, fi_s3, fi_s4, fi_v0, fi_v1, fi_v2, fi_v3, fi_v4, fi_v5, fi_n0, fi_n1, fi_n2, fi_mm, fi_stat, fi_alds, fi_tsw, List.getElem?_cons_zero, List.getElem?_cons_succ, List.set_cons_zero, List.set_cons_succ, List.length_cons, List.length_nil, Option.toList_some, Option.toList_none, List.cons_append, List.nil_append, Value.category, true_and, k_0, k_1, k_2, k_3, k_4, false_implies, true_implies, reduceCtorEq, hX.1]
  refine ⟨by decide, ⟨_, hH⟩, hc1.mono ?_⟩
  rintro r M' ⟨rfl, rfl⟩
  simp only [fi_const, fi_iload, fi_aload, fi_istore, fi_astore, fi_iinc, fi_bin, fi_div, fi_un, fi_dup, fi_dup2, fi_pop, fi_if, fi_cmp, fi_getf, fi_putf, fi_putr, fi_ald, fi_ast, fi_alen, fi_iret, fi_zret, fi_vret, fi_cut, fi_no, fi_s0, fi_s1, fi_s2, fi_s3, fi_s4, fi_v0, fi_v1, fi_v2, fi_v3, fi_v4, fi_v5, fi_n0, fi_n1, fi_n2, fi_mm, fi_stat, fi_alds, fi_tsw, List.getElem?_cons_zero, List.getElem?_cons_succ, List.set_cons_zero, List.set_cons_succ, List.length_cons, List.length_nil, Option.toList_some, Option.toList_none, List.cons_append, List.nil_append, Value.category, true_and, k_0, k_1, k_2, k_3, k_4, false_implies, true_implies, reduceCtorEq]
  have hV' := okV_ld (V := V) f5
  have c : ∀ a, a ≠ 0 → a ≠ 46 → a < 2 ∨ 45 < a → fs_u σ2 46 0 0 a = σ a := fun a h1 h2 h3 => by rw [fs_u_ne h2, s1 a (by omega), fs_u_ne h1, f1 a (by omega), fs_u_ne h1]
  have cz : fs_u σ2 46 0 0 0 1 = 0 ∧ fs_u σ2 46 0 0 0 2 = -1 := by
    rw [fs_u_ne (by decide), s1 0 (by omega)]
    refine ⟨?_, u_eq ..⟩
    simp only [fs_u]; rw [if_neg (by decide), f1 0 (by omega)]; simp [fs_u]
  have h3 : IC0 (fs_u σ2 46 0 0) (ldV V Z.1 Z.2.1) Z.2.2.1.1 Z.2.2.1.2.1 Z.2.2.1.2.2 0 0 := by
    unfold IC0
    simp only [v_lo, v_le, v_ni, v_ca, v_dy, ldV_2, ldV_4]
    have k : ∀ a, a ≠ 46 → fs_u σ2 46 0 0 a = σ2 a := fun a ha => fs_u_ne ha
    refine ⟨by rw [k 2 (by decide)]; exact s2, by rw [k 3 (by decide), k 4 (by decide), k 5 (by decide)]; exact s3, by rw [k 6 (by decide), k 7 (by decide)]; exact s4, by rw [k 8 (by decide), k 9 (by decide), k 10 (by decide), k 11 (by decide)]; exact s5, by rw [k 12 (by decide)]; exact s6, by rw [k 13 (by decide)]; exact s7, u_eq .., fun b hb => absurd hb (by omega), cz.1, fun i hi => absurd hi (Nat.not_lt_zero i), by rw [cz.2]; simp [ldV]⟩
  refine ⟨by decide, ⟨_, hX.1⟩, (c_refresh hX hS hV'.1 hV'.2.1 h3).mono ?_⟩
  rintro r M' ⟨rfl, σ4, rfl, h4, hs4⟩
  simp only [fi_const, fi_iload, fi_aload, fi_istore, fi_astore, fi_iinc, fi_bin, fi_div, fi_un, fi_dup, fi_dup2, fi_pop, fi_if, fi_cmp, fi_getf, fi_putf, fi_putr, fi_ald, fi_ast, fi_alen, fi_iret, fi_zret, fi_vret, fi_cut, fi_no, fi_s0, fi_s1, fi_s2, fi_s3, fi_s4, fi_v0, fi_v1, fi_v2, fi_v3, fi_v4, fi_v5, fi_n0, fi_n1, fi_n2, fi_mm, fi_stat, fi_alds, fi_tsw, List.getElem?_cons_zero, List.getElem?_cons_succ, List.set_cons_zero, List.set_cons_succ, List.length_cons, List.length_nil, Option.toList_some, Option.toList_none, List.cons_append, List.nil_append, Value.category, true_and, k_0, k_1, k_2, k_3, k_4, false_implies, true_implies, reduceCtorEq]
  exact ⟨σ4, rfl, h4, fun a ha => by rw [hs4 a ha, c a (by omega) (by omega) (by omega)]⟩
end PL7
