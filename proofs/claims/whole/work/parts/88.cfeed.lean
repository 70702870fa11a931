/-! ===== feed of the class ===== -/
def by8 (x : Int32) (j : Nat) : Int32 := x >>> (nI (24 - 8 * j) &&& 31) &&& 255
theorem by8_lt (x : Int32) (j : Nat) : ∃ y, y < 256 ∧ by8 x j = nI y := by
  refine ⟨(x >>> (nI (24 - 8 * j) &&& 31)).toBitVec.toNat % 256, Nat.mod_lt _ (by decide), ?_⟩
  unfold by8
  generalize x >>> (nI (24 - 8 * j) &&& 31) = w
  apply Int32.toBitVec_inj.mp
  apply BitVec.eq_of_toNat_eq
  rw [Int32.toBitVec_and, BitVec.toNat_and]
  have : (255 : Int32).toBitVec.toNat = 2 ^ 8 - 1 := by decide
  rw [this, Nat.and_two_pow_sub_one_eq_mod]
  have h1 := Nat.mod_lt w.toBitVec.toNat (show 0 < 2 ^ 8 by decide)
  show _ = (nI (w.toBitVec.toNat % 256)).toBitVec.toNat
  unfold nI
  simp [Int32.toBitVec_ofNat']
  omega
theorem by8_t (x : Int32) (j : Nat) : (by8 x j).toInt8.toInt32 = (x >>> (nI (24 - 8 * j) &&& 31)).toInt8.toInt32 := by
  unfold by8
  generalize x >>> (nI (24 - 8 * j) &&& 31) = w
  congr 1
  apply Int8.toBitVec_inj.mp
  rw [Int32.toBitVec_toInt8, Int32.toBitVec_toInt8, Int32.toBitVec_and]
  apply BitVec.eq_of_toNat_eq
  simp [BitVec.toNat_and, BitVec.toNat_setWidth]
  rw [show (255 : Nat) = 2 ^ 8 - 1 from rfl, Nat.and_two_pow_sub_one_eq_mod]
  exact Nat.mod_eq_of_lt (BitVec.isLt _)
def sl5 (a b c d e : Int32) (q : Nat) : Int32 := match q with | 0 => a | 1 => b | 2 => c | 3 => d | _ => e
def fdV (V : Vt) (nb : Nat) (a b c d e : Int32) : Vt := fun r i => if r = 1 ∧ nb ≤ i ∧ i < nb + 20 then by8 (sl5 a b c d e ((i - nb) / 4)) ((i - nb) % 4) else if r = 0 ∧ i = 2 then nI (nb + 20) else V r i
theorem fdV_ne (V : Vt) (nb : Nat) (a b c d e : Int32) {r : Nat} (h0 : r ≠ 0) (h1 : r ≠ 1) : fdV V nb a b c d e r = V r := by
  funext i; unfold fdV; rw [if_neg (fun z => h1 z.1), if_neg (fun z => h0 z.1)]
theorem okV_fd {V : Vt} {nL nA nS kp nb : Nat} {a b c d e : Int32} (h : okV V nL nA nS kp nb) (hb : nb + 20 ≤ 900) : okV (fdV V nb a b c d e) nL nA nS kp (nb + 20) := by
  obtain ⟨hT, h4, h9, hk, hP, h2, _, hB⟩ := h
  have e2 := fdV_ne V nb a b c d e (show 2 ≠ 0 by decide) (by decide)
  refine ⟨okT_ch e2 hT, by rw [fdV_ne V nb a b c d e (show 4 ≠ 0 by decide) (by decide)]; exact okN_ch e2 h4, by simpa [fdV] using h9, hk, fun i hi => ?_, by simp [fdV], hb, fun i hi => ?_⟩
  · rw [fdV_ne V nb a b c d e (show 7 ≠ 0 by decide) (by decide)]
    exact okN_ch e2 (hP i hi)
  · unfold fdV
    by_cases q : nb ≤ i
    · rw [if_pos ⟨rfl, q, hi⟩]; exact by8_lt _ _
    · rw [if_neg (by omega), if_neg (by omega)]; exact hB i (by omega)
section PF1
variable {g : fs_G} {d : Nat} {S : List fs_Sh} {fr : Bool} {σ : Nat → Nat → Int32} {τ : Nat → Nat → Int64} {V : Vt} {nL nA nS kp nb : Nat}
theorem l_ap1 (hX : shX S) {w s : Int32} {n : Nat} {Q : Option Value → fs_M → Prop} (hn : n < 900) (hs : ¬ s < 0) (h0 : σ 0 1 = nI n) (h : fs_R g m_X8_append d (0, 0) 3 [.ref 0, .int w, .int (s + -8)] [] ((S, fr), fs_u (fs_u σ 1 n (w >>> (s &&& 31)).toInt8.toInt32) 0 1 (nI (n + 1)), τ) Q) : fs_R g m_X8_append d (0, 0) 3 [.ref 0, .int w, .int s] [] ((S, fr), σ, τ) Q := by
  have i9 : vp_in (nI n) 900 := vp_in_nI (by omega) (by decide)
  have e : fs_u σ 1 n (w >>> (s &&& 31)).toInt8.toInt32 0 1 = nI n := by rw [fs_u_ne (by decide)]; exact h0
  have en : vp_nar .byte (w >>> (s &&& 31)).toInt8.toInt32 = (w >>> (s &&& 31)).toInt8.toInt32 := by simp [vp_nar, narrow]
  refine S_X8_append_3 ?_
  simp only [T_X8_append_3, fi_const, fi_iload, fi_aload, fi_istore, fi_astore, fi_iinc, fi_bin, fi_div, fi_un, fi_dup, fi_dup2, fi_pop, fi_if, fi_cmp, fi_getf, fi_putf, fi_putr, fi_ald, fi_ast, fi_alen, fi_iret, fi_zret, fi_vret, fi_cut, fi_no, fi_s0, fi_s1, fi_s2, fi_s3, fi_s4, fi_v0, fi_v1, fi_v2, fi_v3, fi_v4, fi_v5, fi_n0, fi_n1, fi_n2, fi_mm, fi_stat, fi_alds, fi_tsw, List.getElem?_cons_zero, List.getElem?_cons_succ, List.set_cons_zero, List.set_cons_succ, List.length_cons, List.length_nil, Option.toList_some, Option.toList_none, List.cons_append, List.nil_append, Value.category, true_and, k_0, k_1, k_2, k_3, k_4, false_implies, true_implies, reduceCtorEq, hX.1, hX.2.1, h0, i9, nI_clamp (show n < 2 ^ 31 by omega), en, e, nI_1]
  exact ⟨fun z => absurd z hs, fun _ => pk_le 900 n (fun z => by omega) (fun _ => h)⟩
theorem c_append (hX : shX S) {w : Int32} {n : Nat} (hn : n + 4 ≤ 900) (h0 : σ 0 1 = nI n) : fs_Ct g m_X8_append [.ref 0, .int w] ((S, fr), σ, τ) (fun r M' => r = none ∧ ∃ σ', M' = ((S, fr), σ', τ) ∧ (∀ a, a ≠ 0 → a ≠ 1 → σ' a = σ a) ∧ σ' 0 1 = nI (n + 4) ∧ σ' 0 2 = σ 0 2 ∧ (∀ j, j < 4 → σ' 1 (n + j) = (by8 w j).toInt8.toInt32) ∧ ∀ i, i < n → σ' 1 i = σ 1 i) := by
  refine fs_enterC (by decide) (by simp [fs_ok]) (Nat.le_of_ble_eq_true rfl) (fun d => S_X8_append_0 ?_)
  show T_X8_append_0 g d _ [.ref 0, .int w, .null] [] _
  simp only [T_X8_append_0, fi_const, fi_iload, fi_aload, fi_istore, fi_astore, fi_iinc, fi_bin, fi_div, fi_un, fi_dup, fi_dup2, fi_pop, fi_if, fi_cmp, fi_getf, fi_putf, fi_putr, fi_ald, fi_ast, fi_alen, fi_iret, fi_zret, fi_vret, fi_cut, fi_no, fi_s0, fi_s1, fi_s2, fi_s3, fi_s4, fi_v0, fi_v1, fi_v2, fi_v3, fi_v4, fi_v5, fi_n0, fi_n1, fi_n2, fi_mm, fi_stat, fi_alds, fi_tsw, List.getElem?_cons_zero, List.getElem?_cons_succ, List.set_cons_zero, List.set_cons_succ, List.length_cons, List.length_nil, Option.toList_some, Option.toList_none, List.cons_append, List.nil_append, Value.category, true_and, k_0, k_1, k_2, k_3, k_4, false_implies, true_implies, reduceCtorEq]
  refine l_ap1 (s := 24) hX (by omega) (by decide) h0 ?_
  refine l_ap1 (s := 24 + -8) (n := n + 1) hX (by omega) (by decide) (u_eq ..) ?_
  refine l_ap1 (s := 24 + -8 + -8) (n := n + 2) hX (by omega) (by decide) (u_eq ..) ?_
  refine l_ap1 (s := 24 + -8 + -8 + -8) (n := n + 3) hX (by omega) (by decide) (u_eq ..) ?_
  refine S_X8_append_3 ?_
  simp only [T_X8_append_3, fi_const, fi_iload, fi_aload, fi_istore, fi_astore, fi_iinc, fi_bin, fi_div, fi_un, fi_dup, fi_dup2, fi_pop, fi_if, fi_cmp, fi_getf, fi_putf, fi_putr, fi_ald, fi_ast, fi_alen, fi_iret, fi_zret, fi_vret, fi_cut, fi_no, fi_s0, fi_s1, fi_s2, fi_s3, fi_s4, fi_v0, fi_v1, fi_v2, fi_v3, fi_v4, fi_v5, fi_n0, fi_n1, fi_n2, fi_mm, fi_stat, fi_alds, fi_tsw, List.getElem?_cons_zero, List.getElem?_cons_succ, List.set_cons_zero, List.set_cons_succ, List.length_cons, List.length_nil, Option.toList_some, Option.toList_none, List.cons_append, List.nil_append, Value.category, true_and, k_0, k_1, k_2, k_3, k_4, false_implies, true_implies, reduceCtorEq, hX.1]
  refine ⟨fun _ => ?_, fun z => absurd (by decide) z⟩
  refine ⟨_, rfl, fun a h1 h2 => by simp only [fs_u_ne h1, fs_u_ne h2], u_eq .., ?_, fun j hj => ?_, fun i hi => ?_⟩
  · simp [fs_u]
  · rw [by8_t]
    have : j = 0 ∨ j = 1 ∨ j = 2 ∨ j = 3 := by omega
    rcases this with rfl | rfl | rfl | rfl
    · simp [fs_u]; rfl
    · simp [fs_u]; rfl
    · simp [fs_u]; rfl
    · simp [fs_u, show nI 0 = 0 from rfl]
  · simp only [fs_u]
    rw [if_neg (by omega), if_neg (by omega), if_neg (by omega), if_neg (by omega), if_neg (by omega), if_neg (by omega), if_neg (by omega), if_neg (by omega)]
theorem IC_fd {σ' : Nat → Nat → Int32} {a b c d e : Int32} (h : IC σ V nL nA nS kp nb) (hb : nb + 20 ≤ 900) (f1 : ∀ r, r ≠ 0 → r ≠ 1 → σ' r = σ r) (f2 : σ' 0 1 = nI (nb + 20)) (f3 : σ' 0 2 = σ 0 2) (f4 : ∀ i, i < 20 → σ' 1 (nb + i) = (by8 (sl5 a b c d e (i / 4)) (i % 4)).toInt8.toInt32) (f5 : ∀ i, i < nb → σ' 1 i = σ 1 i) : IC σ' (fdV V nb a b c d e) nL nA nS kp (nb + 20) := by
  obtain ⟨h1, h2, h3, h4, h5, h6, h7, h8, h9, h10, h11, h12, h13⟩ := h
  have e2 := fdV_ne V nb a b c d e (show 2 ≠ 0 by decide) (by decide)
  have e4 := fdV_ne V nb a b c d e (show 4 ≠ 0 by decide) (by decide)
  have e7 := fdV_ne V nb a b c d e (show 7 ≠ 0 by decide) (by decide)
  unfold IC
  simp only [v_lo, v_le, v_ni, v_ca, v_dy, e2, e4, e7]
  refine ⟨by rw [f1 2 (by decide) (by decide)]; exact h1, by rw [f1 3 (by decide) (by decide), f1 4 (by decide) (by decide), f1 5 (by decide) (by decide)]; exact h2, by rw [f1 6 (by decide) (by decide), f1 7 (by decide) (by decide)]; exact h3, by rw [f1 8 (by decide) (by decide), f1 9 (by decide) (by decide), f1 10 (by decide) (by decide), f1 11 (by decide) (by decide)]; exact h4, by rw [f1 12 (by decide) (by decide)]; exact h5, by rw [f1 13 (by decide) (by decide)]; exact h6, ?_, by rw [f1 46 (by decide) (by decide)]; exact h8, by rw [f1 47 (by decide) (by decide)]; exact h9, f2, fun i hi => ?_, by rw [f3]; simpa [fdV] using h12, ?_⟩
  · unfold tab at h7 ⊢
    rw [f1 12 (by decide) (by decide), f1 (14 + 1) (by decide) (by decide), f1 (14 + 2) (by decide) (by decide), f1 (14 + 3) (by decide) (by decide), f1 (14 + 4) (by decide) (by decide), f1 (14 + 5) (by decide) (by decide), f1 (2 + 6) (by decide) (by decide), f1 (2 + 8) (by decide) (by decide), f1 (2 + 7) (by decide) (by decide), f1 (2 + 9) (by decide) (by decide)]
    exact h7
  · unfold fdV
    by_cases q : nb ≤ i
    · rw [if_pos ⟨rfl, q, hi⟩]
      have := f4 (i - nb) (by omega)
      rw [show nb + (i - nb) = i by omega] at this
      exact this
    · rw [if_neg (by omega), if_neg (by omega), f5 i (by omega)]; exact h11 i (by omega)
  · exact srch_congr e2 e4 (h13.keep (fun a h1 h2 => f1 a (by omega) (by omega)))
theorem k_feed_3 (hX : shX S) (hV : okV V nL nA nS kp nb) {a b c f e : Int32} (hb : ¬ nb + 20 ≤ 900) : askC g S fr τ V nL nA nS kp nb m_X8_feed [.ref 0, .int a, .int b, .int c, .int f, .int e] (-3) := by
  intro σ h
  have h9 := hV.2.2.2.2.2.2.1
  have h0 := h.2.2.2.2.2.2.2.2.2.1
  have e20 : nI nb + 20 = nI (nb + 20) := nI_add nb 20
  refine fs_enterC (by decide) (by simp [fs_ok]) (Nat.le_of_ble_eq_true rfl) (fun d => S_X8_feed_0 ?_)
  show T_X8_feed_0 g d _ [.ref 0, .int a, .int b, .int c, .int f, .int e] [] _
  simp only [T_X8_feed_0, fi_const, fi_iload, fi_aload, fi_istore, fi_astore, fi_iinc, fi_bin, fi_div, fi_un, fi_dup, fi_dup2, fi_pop, fi_if, fi_cmp, fi_getf, fi_putf, fi_putr, fi_ald, fi_ast, fi_alen, fi_iret, fi_zret, fi_vret, fi_cut, fi_no, fi_s0, fi_s1, fi_s2, fi_s3, fi_s4, fi_v0, fi_v1, fi_v2, fi_v3, fi_v4, fi_v5, fi_n0, fi_n1, fi_n2, fi_mm, fi_stat, fi_alds, fi_tsw, List.getElem?_cons_zero, List.getElem?_cons_succ, List.set_cons_zero, List.set_cons_succ, List.length_cons, List.length_nil, Option.toList_some, Option.toList_none, List.cons_append, List.nil_append, Value.category, true_and, k_0, k_1, k_2, k_3, k_4, false_implies, true_implies, reduceCtorEq]
  simp only [fi_const, fi_iload, fi_aload, fi_istore, fi_astore, fi_iinc, fi_bin, fi_div, fi_un, fi_dup, fi_dup2, fi_pop, fi_if, fi_cmp, fi_getf, fi_putf, fi_putr, fi_ald, fi_ast, fi_alen, fi_iret, fi_zret, fi_vret, fi_cut, fi_no, fi_s0, fi_s1, fi_s2, fi_s3, fi_s4, fi_v0, fi_v1, fi_v2, fi_v3, fi_v4, fi_v5, fi_n0, fi_n1, fi_n2, fi_mm, fi_stat, fi_alds, fi_tsw, List.getElem?_cons_zero, List.getElem?_cons_succ, List.set_cons_zero, List.set_cons_succ, List.length_cons, List.length_nil, Option.toList_some, Option.toList_none, List.cons_append, List.nil_append, Value.category, true_and, k_0, k_1, k_2, k_3, k_4, false_implies, true_implies, reduceCtorEq, hX.1, h0, e20]
  exact pk_le (nb + 20) 900 (fun z => absurd z hb) (fun _ => ⟨σ, rfl, h, fun _ _ => rfl⟩)
theorem k_feed (hX : shX S) (hV : okV V nL nA nS kp nb) {a b c f e : Int32} (hb : nb + 20 ≤ 900) : chgD g S fr τ V nL nA nS kp nb m_X8_feed [.ref 0, .int a, .int b, .int c, .int f, .int e] (nI (nb + 20)) (fdV V nb a b c f e) nL nA nS kp (nb + 20) := by
  intro σ h
  have h0 := h.2.2.2.2.2.2.2.2.2.1
  have e20 : nI nb + 20 = nI (nb + 20) := nI_add nb 20
  refine fs_enterC (by decide) (by simp [fs_ok]) (Nat.le_of_ble_eq_true rfl) (fun d => S_X8_feed_0 ?_)
  show T_X8_feed_0 g d _ [.ref 0, .int a, .int b, .int c, .int f, .int e] [] _
  simp only [T_X8_feed_0, fi_const, fi_iload, fi_aload, fi_istore, fi_astore, fi_iinc, fi_bin, fi_div, fi_un, fi_dup, fi_dup2, fi_pop, fi_if, fi_cmp, fi_getf, fi_putf, fi_putr, fi_ald, fi_ast, fi_alen, fi_iret, fi_zret, fi_vret, fi_cut, fi_no, fi_s0, fi_s1, fi_s2, fi_s3, fi_s4, fi_v0, fi_v1, fi_v2, fi_v3, fi_v4, fi_v5, fi_n0, fi_n1, fi_n2, fi_mm, fi_stat, fi_alds, fi_tsw, List.getElem?_cons_zero, List.getElem?_cons_succ, List.set_cons_zero, List.set_cons_succ, List.length_cons, List.length_nil, Option.toList_some, Option.toList_none, List.cons_append, List.nil_append, Value.category, true_and, k_0, k_1, k_2, k_3, k_4, false_implies, true_implies, reduceCtorEq]
  simp only [fi_const, fi_iload, fi_aload, fi_istore, fi_astore, fi_iinc, fi_bin, fi_div, fi_un, fi_dup, fi_dup2, fi_pop, fi_if, fi_cmp, fi_getf, fi_putf, fi_putr, fi_ald, fi_ast, fi_alen, fi_iret, fi_zret, fi_vret, fi_cut, fi_no, fi_s0, fi_s1, fi_s2, fi_s3, fi_s4, fi_v0, fi_v1, fi_v2, fi_v3, fi_v4, fi_v5, fi_n0, fi_n1, fi_n2, fi_mm, fi_stat, fi_alds, fi_tsw, List.getElem?_cons_zero, List.getElem?_cons_succ, List.set_cons_zero, List.set_cons_succ, List.length_cons, List.length_nil, Option.toList_some, Option.toList_none, List.cons_append, List.nil_append, Value.category, true_and, k_0, k_1, k_2, k_3, k_4, false_implies, true_implies, reduceCtorEq, hX.1, h0, e20]
  refine pk_le (nb + 20) 900 (fun _ => ?_) (fun z => by omega)
  refine ⟨by decide, ⟨_, rfl⟩, (c_append (n := nb) hX (by omega) h0).mono ?_⟩
  rintro r M' ⟨rfl, σ1, rfl, p1, p2, p3, p4, p5⟩
  simp only [fi_const, fi_iload, fi_aload, fi_istore, fi_astore, fi_iinc, fi_bin, fi_div, fi_un, fi_dup, fi_dup2, fi_pop, fi_if, fi_cmp, fi_getf, fi_putf, fi_putr, fi_ald, fi_ast, fi_alen, fi_iret, fi_zret, fi_vret, fi_cut, fi_no, fi_s0, fi_s1, fi_s2, fi_s3, fi_s4, fi_v0, fi_v1, fi_v2, fi_v3, fi_v4, fi_v5, fi_n0, fi_n1, fi_n2, fi_mm, fi_stat, fi_alds, fi_tsw, List.getElem?_cons_zero, List.getElem?_cons_succ, List.set_cons_zero, List.set_cons_succ, List.length_cons, List.length_nil, Option.toList_some, Option.toList_none, List.cons_append, List.nil_append, Value.category, true_and, k_0, k_1, k_2, k_3, k_4, false_implies, true_implies, reduceCtorEq]
  refine ⟨by decide, ⟨_, hX.1⟩, (c_append (n := nb + 4) hX (by omega) p2).mono ?_⟩
  rintro r M' ⟨rfl, σ2, rfl, q1, q2, q3, q4, q5⟩
  simp only [fi_const, fi_iload, fi_aload, fi_istore, fi_astore, fi_iinc, fi_bin, fi_div, fi_un, fi_dup, fi_dup2, fi_pop, fi_if, fi_cmp, fi_getf, fi_putf, fi_putr, fi_ald, fi_ast, fi_alen, fi_iret, fi_zret, fi_vret, fi_cut, fi_no, fi_s0, fi_s1, fi_s2, fi_s3, fi_s4, fi_v0, fi_v1, fi_v2, fi_v3, fi_v4, fi_v5, fi_n0, fi_n1, fi_n2, fi_mm, fi_stat, fi_alds, fi_tsw, List.getElem?_cons_zero, List.getElem?_cons_succ, List.set_cons_zero, List.set_cons_succ, List.length_cons, List.length_nil, Option.toList_some, Option.toList_none, List.cons_append, List.nil_append, Value.category, true_and, k_0, k_1, k_2, k_3, k_4, false_implies, true_implies, reduceCtorEq]
  refine ⟨by decide, ⟨_, hX.1⟩, (c_append (n := nb + 8) hX (by omega) q2).mono ?_⟩
  rintro r M' ⟨rfl, σ3, rfl, r1, r2, r3, r4, r5⟩
  simp only [fi_const, fi_iload, fi_aload, fi_istore, fi_astore, fi_iinc, fi_bin, fi_div, fi_un, fi_dup, fi_dup2, fi_pop, fi_if, fi_cmp, fi_getf, fi_putf, fi_putr, fi_ald, fi_ast, fi_alen, fi_iret, fi_zret, fi_vret, fi_cut, fi_no, fi_s0, fi_s1, fi_s2, fi_s3, fi_s4, fi_v0, fi_v1, fi_v2, fi_v3, fi_v4, fi_v5, fi_n0, fi_n1, fi_n2, fi_mm, fi_stat, fi_alds, fi_tsw, List.getElem?_cons_zero, List.getElem?_cons_succ, List.set_cons_zero, List.set_cons_succ, List.length_cons, List.length_nil, Option.toList_some, Option.toList_none, List.cons_append, List.nil_append, Value.category, true_and, k_0, k_1, k_2, k_3, k_4, false_implies, true_implies, reduceCtorEq]
  refine ⟨by decide, ⟨_, hX.1⟩, (c_append (n := nb + 12) hX (by omega) r2).mono ?_⟩
  rintro r M' ⟨rfl, σ4, rfl, s1, s2, s3, s4, s5⟩
  simp only [fi_const, fi_iload, fi_aload, fi_istore, fi_astore, fi_iinc, fi_bin, fi_div, fi_un, fi_dup, fi_dup2, fi_pop, fi_if, fi_cmp, fi_getf, fi_putf, fi_putr, fi_ald, fi_ast, fi_alen, fi_iret, fi_zret, fi_vret, fi_cut, fi_no, fi_s0, fi_s1, fi_s2, fi_s3, fi_s4, fi_v0, fi_v1, fi_v2, fi_v3, fi_v4, fi_v5, fi_n0, fi_n1, fi_n2, fi_mm, fi_stat, fi_alds, fi_tsw, List.getElem?_cons_zero, List.getElem?_cons_succ, List.set_cons_zero, List.set_cons_succ, List.length_cons, List.length_nil, Option.toList_some, Option.toList_none, List.cons_append, List.nil_append, Value.category, true_and, k_0, k_1, k_2, k_3, k_4, false_implies, true_implies, reduceCtorEq]
  refine ⟨by decide, ⟨_, hX.1⟩, (c_append (n := nb + 16) hX (by omega) s2).mono ?_⟩
  rintro r M' ⟨rfl, σ5, rfl, t1, t2, t3, t4, t5⟩
  simp only [fi_const, fi_iload, fi_aload, fi_istore, fi_astore, fi_iinc, fi_bin, fi_div, fi_un, fi_dup, fi_dup2, fi_pop, fi_if, fi_cmp, fi_getf, fi_putf, fi_putr, fi_ald, fi_ast, fi_alen, fi_iret, fi_zret, fi_vret, fi_cut, fi_no, fi_s0, fi_s1, fi_s2, fi_s3, fi_s4, fi_v0, fi_v1, fi_v2, fi_v3, fi_v4, fi_v5, fi_n0, fi_n1, fi_n2, fi_mm, fi_stat, fi_alds, fi_tsw, List.getElem?_cons_zero, List.getElem?_cons_succ, List.set_cons_zero, List.set_cons_succ, List.length_cons, List.length_nil, Option.toList_some, Option.toList_none, List.cons_append, List.nil_append, Value.category, true_and, k_0, k_1, k_2, k_3, k_4, false_implies, true_implies, reduceCtorEq, hX.1, t2]
  refine ⟨σ5, rfl, IC_fd h hb (fun x x0 x1 => by rw [t1 x x0 x1, s1 x x0 x1, r1 x x0 x1, q1 x x0 x1, p1 x x0 x1]) t2 (by rw [t3, s3, r3, q3, p3]) (fun i hi => ?_) (fun i hi => by rw [t5 i (by omega), s5 i (by omega), r5 i (by omega), q5 i (by omega), p5 i hi]), fun x hx => by rw [t1 x (by omega) (by omega), s1 x (by omega) (by omega), r1 x (by omega) (by omega), q1 x (by omega) (by omega), p1 x (by omega) (by omega)]⟩
  have hd : i = 4 * (i / 4) + i % 4 := by omega
  have hm : i % 4 < 4 := Nat.mod_lt _ (by decide)
  have hq : i / 4 = 0 ∨ i / 4 = 1 ∨ i / 4 = 2 ∨ i / 4 = 3 ∨ i / 4 = 4 := by omega
  rcases hq with w | w | w | w | w
  · rw [w]; have := p4 (i % 4) hm; rw [show nb + i % 4 = nb + i by omega] at this
    rw [t5 _ (by omega), s5 _ (by omega), r5 _ (by omega), q5 _ (by omega), this]; rfl
  · rw [w]; have := q4 (i % 4) hm; rw [show nb + 4 + i % 4 = nb + i by omega] at this
    rw [t5 _ (by omega), s5 _ (by omega), r5 _ (by omega), this]; rfl
  · rw [w]; have := r4 (i % 4) hm; rw [show nb + 8 + i % 4 = nb + i by omega] at this
    rw [t5 _ (by omega), s5 _ (by omega), this]; rfl
  · rw [w]; have := s4 (i % 4) hm; rw [show nb + 12 + i % 4 = nb + i by omega] at this
    rw [t5 _ (by omega), this]; rfl
  · rw [w]; have := t4 (i % 4) hm; rw [show nb + 16 + i % 4 = nb + i by omega] at this
    rw [this]; rfl
end PF1
