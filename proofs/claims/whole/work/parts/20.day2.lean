/-! ===== DayTable: building ===== -/
section PD2
variable {g : fs_G} {d : Nat} {S : List fs_Sh} {fr : Bool} {σ : Nat → Nat → Int32} {τ : Nat → Nat → Int64} {p t : Nat}
/-- a scene more -/
def plus (σ σ' : Nat → Nat → Int32) (t p k : Nat) (dv : Int32) : Prop := ∀ e, e < 12 →
  σ' (t + 1) e = (if dv = nI e then σ (t + 1) e ||| 1 <<< (nI k &&& 31) else σ (t + 1) e) ∧ σ' (t + 2) e = (if dv = nI e then σ (p + 6) k else σ (t + 2) e) ∧ σ' (t + 3) e = (if dv = nI e then σ (p + 8) k else σ (t + 3) e) ∧ σ' (t + 4) e = (if dv = nI e then σ (t + 4) e + σ (p + 7) k else σ (t + 4) e) ∧ σ' (t + 5) e = (if dv = nI e then σ (t + 5) e ||| σ (p + 9) k else σ (t + 5) e)
theorem nar_int (x : Int32) : vp_nar .int x = x := rfl
theorem plus_no {dv : Int32} (h : ∀ e, e < 12 → dv ≠ nI e) {k : Nat} : plus σ σ t p k dv := by
  intro e he
  simp [h e he]
theorem c_addScene (hD : shD S t p) (hP : shP S p) (hpt : p + 12 ≤ t) {k : Nat} (hk : k < 14) (dv : Int32) (hn : σ (p + 8) k = 0 ∨ σ (p + 8) k = 1) : fs_Ct g m_X0_addScene [.ref t, .int (nI k), .int dv] ((S, fr), σ, τ) (fun r M' => r = none ∧ ∃ σ', M' = ((S, fr), σ', τ) ∧ same σ σ' (inT t) ∧ plus σ σ' t p k dv) := by
  obtain ⟨h0, h1, h2, h3, h4, h5⟩ := hD
  obtain ⟨a0, a1, a2, a3, a4, a5, a6, a7, a8, a9, a10, a11⟩ := hP
  have hk31 : k < 2 ^ 31 := by omega
  refine fs_enterC (by decide) (by simp [fs_ok]) (Nat.le_of_ble_eq_true rfl) (fun d => S_X0_addScene_0 ?_)
  show T_X0_addScene_0 g d _ [.ref t, .int (nI k), .int dv] [] _
  simp only [T_X0_addScene_0, fi_const, fi_iload, fi_aload, fi_istore, fi_astore, fi_iinc, fi_bin, fi_div, fi_un, fi_dup, fi_dup2, fi_pop, fi_if, fi_cmp, fi_getf, fi_putf, fi_putr, fi_ald, fi_ast, fi_alen, fi_iret, fi_zret, fi_vret, fi_cut, fi_no, fi_s0, fi_s1, fi_s2, fi_s3, fi_s4, fi_v0, fi_v1, fi_v2, fi_v3, fi_v4, fi_v5, fi_n0, fi_n1, fi_n2, fi_mm, fi_stat, fi_alds, fi_tsw, List.getElem?_cons_zero, List.getElem?_cons_succ, List.set_cons_zero, List.set_cons_succ, List.length_cons, List.length_nil, Option.toList_some, Option.toList_none, List.cons_append, List.nil_append, Value.category, true_and, k_0, k_1, k_2, k_3, k_4, false_implies, true_implies, reduceCtorEq]
  simp only [h0, h1, h2, h3, h4, h5, a0, a6, a7, a8, a9, fi_const, fi_iload, fi_aload, fi_istore, fi_astore, fi_iinc, fi_bin, fi_div, fi_un, fi_dup, fi_dup2, fi_pop, fi_if, fi_cmp, fi_getf, fi_putf, fi_putr, fi_ald, fi_ast, fi_alen, fi_iret, fi_zret, fi_vret, fi_cut, fi_no, fi_s0, fi_s1, fi_s2, fi_s3, fi_s4, fi_v0, fi_v1, fi_v2, fi_v3, fi_v4, fi_v5, fi_n0, fi_n1, fi_n2, fi_mm, fi_stat, fi_alds, fi_tsw, List.getElem?_cons_zero, List.getElem?_cons_succ, List.set_cons_zero, List.set_cons_succ, List.length_cons, List.length_nil, Option.toList_some, Option.toList_none, List.cons_append, List.nil_append, Value.category, true_and, k_0, k_1, k_2, k_3, k_4, false_implies, true_implies, reduceCtorEq, nI_clamp hk31]
  refine ⟨fun hneg => ?_, fun hneg => ⟨fun h12 => ?_, fun h12 => ?_⟩⟩
  · refine ⟨σ, rfl, same.rf, plus_no (fun e he q => ?_)⟩
    rw [q] at hneg
    exact nI_pos (by omega) hneg
  · refine ⟨σ, rfl, same.rf, plus_no (fun e he q => ?_)⟩
    rw [q] at h12
    exact absurd h12 (nI_ge (a := e) (b := 12) he (by decide))
  · obtain ⟨j, hj, rfl⟩ : ∃ j, j < 12 ∧ dv = nI j := by
      rcases pk_ix dv (n := 12) (by decide) with q | q | q
      · exact absurd q hneg
      · exact absurd q h12
      · exact q
    have hi : vp_in (nI j) 12 := vp_in_nI (by omega) (by decide)
    have hi2 : vp_in (nI k) 14 := vp_in_nI (by omega) (by decide)
    have hj31 : j < 2 ^ 31 := by omega
    simp only [nI_clamp hj31, hi, hi2, true_and]
    refine ⟨_, rfl, same_uu (same_uu (same_uu (same_uu (same_u ⟨by omega, by omega⟩) ⟨by omega, by omega⟩) ⟨by omega, by omega⟩) ⟨by omega, by omega⟩) ⟨by omega, by omega⟩, ?_⟩
    intro e he
    have hje : (nI j = nI e) ↔ (e = j) := by rw [nI_eq hj31 (by omega)]; exact eq_comm
    have w1 : ∀ a b : Nat, (t + a = t + b) = (a = b) := by intro a b; simp
    have w2 : ∀ a b : Nat, a < 12 → (p + a = t + b) = False := by intro a b ha; simp; omega
    simp only [fs_u, nar_int, w1, w2 6 _ (by decide), w2 7 _ (by decide), w2 8 _ (by decide), w2 9 _ (by decide), hje]
    by_cases e1 : e = j
    · subst e1
      simp [nar_bool hn]
    · simp [e1]
/-- the days without one scene -/
def dyW (dy : Nat → Int32) (w : Int32) : Nat → Int32 := fun k => if nI k = w then -1 else dy k
theorem m1_nI {e : Nat} (h : e < 12) : ¬ (-1 : Int32) = nI e := by
  intro q
  have := nI_pos (n := e) (by omega)
  rw [← q] at this
  exact this (by decide)
theorem shows_plus {σ' : Nat → Nat → Int32} {dy : Nat → Int32} {k : Nat} (hs : shows σ t p dy k) (hf : same σ σ' (inT t)) (hpt : p + 12 ≤ t) (hp : plus σ σ' t p k (dy k)) : shows σ' t p dy (k + 1) := by
  intro e he
  obtain ⟨s1, s2, s3, s4, s5⟩ := hs e he
  obtain ⟨q1, q2, q3, q4, q5⟩ := hp e he
  have f6 : ∀ i, i < 12 → σ' (p + i) = σ (p + i) := fun i hi => hf (p + i) (fun z => by have := z.1; omega)
  rw [q1, q2, q3, q4, q5, s1, s2, s3, s4, s5, f6 6 (by decide), f6 7 (by decide), f6 8 (by decide), f6 9 (by decide)]
  exact ⟨rfl, rfl, rfl, rfl, rfl⟩
theorem shows_skip {dy : Nat → Int32} {k : Nat} (hs : shows σ t p dy k) (h : dy k = -1) : shows σ t p dy (k + 1) := by
  intro e he
  have := m1_nI he
  simp only [scF, loF, niF, leF, caF, h, this, if_false]
  exact hs e he
theorem l_buildWithout (hD : shD S t p) (hP : shP S p) (hpt : p + 12 ≤ t) {nS : Nat} (hnS : nS ≤ 14) (w : Int32) (σ0 : Nat → Nat → Int32) (hc : σ0 p 7 = nI nS) (hni : ∀ k, k < nS → σ0 (p + 8) k = 0 ∨ σ0 (p + 8) k = 1) : ∀ n k σ, k + n = nS → same σ0 σ (inT t) → shows σ t p (dyW (σ0 (p + 10)) w) k → fs_R g m_X0_buildWithout d (0, 0) 6 [.ref t, .int w, .int (nI k)] [] ((S, fr), σ, τ) (fun r M' => r = none ∧ ∃ σ', M' = ((S, fr), σ', τ) ∧ same σ0 σ' (inT t) ∧ shows σ' t p (dyW (σ0 (p + 10)) w) nS)
  | n, k, σ, h, hs, hv => by
    have f6 : ∀ i, i < 12 → σ (p + i) = σ0 (p + i) := fun i hi => hs (p + i) (fun z => by have := z.1; omega)
    have f0 : σ p = σ0 p := f6 0 (by decide)
    have hk31 : k < 2 ^ 31 := by omega
    refine S_X0_buildWithout_6 ?_
    simp only [T_X0_buildWithout_6, fi_const, fi_iload, fi_aload, fi_istore, fi_astore, fi_iinc, fi_bin, fi_div, fi_un, fi_dup, fi_dup2, fi_pop, fi_if, fi_cmp, fi_getf, fi_putf, fi_putr, fi_ald, fi_ast, fi_alen, fi_iret, fi_zret, fi_vret, fi_cut, fi_no, fi_s0, fi_s1, fi_s2, fi_s3, fi_s4, fi_v0, fi_v1, fi_v2, fi_v3, fi_v4, fi_v5, fi_n0, fi_n1, fi_n2, fi_mm, fi_stat, fi_alds, fi_tsw, List.getElem?_cons_zero, List.getElem?_cons_succ, List.set_cons_zero, List.set_cons_succ, List.length_cons, List.length_nil, Option.toList_some, Option.toList_none, List.cons_append, List.nil_append, Value.category, true_and, k_0, k_1, k_2, k_3, k_4, false_implies, true_implies, reduceCtorEq, hD.1, hP.1, f0, hc, nI_1]
    refine pk_le nS k (fun _ => ?_) (fun h2 => ?_)
    · exact ⟨σ, rfl, hs, by rw [show nS = k by omega]; exact hv⟩
    · obtain ⟨n', rfl⟩ : ∃ n', n = n' + 1 := ⟨n - 1, by omega⟩
      refine ⟨fun e => ?_, fun e => ?_⟩
      · exact l_buildWithout hD hP hpt hnS w σ0 hc hni n' (k + 1) σ (by omega) hs (shows_skip hv (by simp [dyW, e]))
      · simp only [hP.2.2.2.2.2.2.2.2.2.2.1, nI_clamp hk31, true_and]
        refine ⟨vp_in_nI (by omega) (by decide), by decide, ⟨_, rfl⟩, (c_addScene hD hP hpt (by omega) _ ?_).mono ?_⟩
        · rw [f6 8 (by decide)]
          exact hni k (by omega)
        · rintro r M' ⟨rfl, σ', rfl, hs', hp⟩
          simp only [fi_const, fi_iload, fi_aload, fi_istore, fi_astore, fi_iinc, fi_bin, fi_div, fi_un, fi_dup, fi_dup2, fi_pop, fi_if, fi_cmp, fi_getf, fi_putf, fi_putr, fi_ald, fi_ast, fi_alen, fi_iret, fi_zret, fi_vret, fi_cut, fi_no, fi_s0, fi_s1, fi_s2, fi_s3, fi_s4, fi_v0, fi_v1, fi_v2, fi_v3, fi_v4, fi_v5, fi_n0, fi_n1, fi_n2, fi_mm, fi_stat, fi_alds, fi_tsw, List.getElem?_cons_zero, List.getElem?_cons_succ, List.set_cons_zero, List.set_cons_succ, List.length_cons, List.length_nil, Option.toList_some, Option.toList_none, List.cons_append, List.nil_append, Value.category, true_and, k_0, k_1, k_2, k_3, k_4, false_implies, true_implies, reduceCtorEq, nI_1]
          refine l_buildWithout hD hP hpt hnS w σ0 hc hni n' (k + 1) σ' (by omega) (hs.tr hs') (shows_plus hv hs' hpt ?_)
          simp only [dyW, e, if_false]
          rw [f6 10 (by decide)] at hp
          exact hp
theorem c_buildWithout (hD : shD S t p) (hP : shP S p) (hpt : p + 12 ≤ t) {nS : Nat} (hnS : nS ≤ 14) (w : Int32) (hc : σ p 7 = nI nS) (hni : ∀ k, k < nS → σ (p + 8) k = 0 ∨ σ (p + 8) k = 1) : fs_Ct g m_X0_buildWithout [.ref t, .int w] ((S, fr), σ, τ) (fun r M' => r = none ∧ ∃ σ', M' = ((S, fr), σ', τ) ∧ same σ σ' (inT t) ∧ shows σ' t p (dyW (σ (p + 10)) w) nS) := by
  refine fs_enterC (by decide) (by simp [fs_ok]) (Nat.le_of_ble_eq_true rfl) (fun d => S_X0_buildWithout_0 ?_)
  show T_X0_buildWithout_0 g d _ [.ref t, .int w, .null] [] _
  simp only [T_X0_buildWithout_0, fi_const, fi_iload, fi_aload, fi_istore, fi_astore, fi_iinc, fi_bin, fi_div, fi_un, fi_dup, fi_dup2, fi_pop, fi_if, fi_cmp, fi_getf, fi_putf, fi_putr, fi_ald, fi_ast, fi_alen, fi_iret, fi_zret, fi_vret, fi_cut, fi_no, fi_s0, fi_s1, fi_s2, fi_s3, fi_s4, fi_v0, fi_v1, fi_v2, fi_v3, fi_v4, fi_v5, fi_n0, fi_n1, fi_n2, fi_mm, fi_stat, fi_alds, fi_tsw, List.getElem?_cons_zero, List.getElem?_cons_succ, List.set_cons_zero, List.set_cons_succ, List.length_cons, List.length_nil, Option.toList_some, Option.toList_none, List.cons_append, List.nil_append, Value.category, true_and, k_0, k_1, k_2, k_3, k_4, false_implies, true_implies, reduceCtorEq]
  refine ⟨by decide, ⟨_, hD.1⟩, (c_clearDays hD).mono ?_⟩
  rintro r M' ⟨rfl, σ', rfl, hs', hv⟩
  simp only [fi_const, fi_iload, fi_aload, fi_istore, fi_astore, fi_iinc, fi_bin, fi_div, fi_un, fi_dup, fi_dup2, fi_pop, fi_if, fi_cmp, fi_getf, fi_putf, fi_putr, fi_ald, fi_ast, fi_alen, fi_iret, fi_zret, fi_vret, fi_cut, fi_no, fi_s0, fi_s1, fi_s2, fi_s3, fi_s4, fi_v0, fi_v1, fi_v2, fi_v3, fi_v4, fi_v5, fi_n0, fi_n1, fi_n2, fi_mm, fi_stat, fi_alds, fi_tsw, List.getElem?_cons_zero, List.getElem?_cons_succ, List.set_cons_zero, List.set_cons_succ, List.length_cons, List.length_nil, Option.toList_some, Option.toList_none, List.cons_append, List.nil_append, Value.category, true_and, k_0, k_1, k_2, k_3, k_4, false_implies, true_implies, reduceCtorEq]
  exact l_buildWithout hD hP hpt hnS w σ hc hni nS 0 σ' (by omega) hs' (fun e he => hv e he)
theorem dyW_m1 (dy : Nat → Int32) {k : Nat} (h : k < 14) : dyW dy (-1) k = dy k := by
  simp only [dyW]
  rw [if_neg]
  intro q
  have := nI_pos (n := k) (by omega)
  rw [q] at this
  exact this (by decide)
theorem scF_congr {dy dy' : Nat → Int32} {e : Nat} : ∀ {n : Nat}, (∀ k, k < n → dy k = dy' k) → scF dy e n = scF dy' e n
  | 0, _ => rfl
  | n + 1, h => by simp only [scF]; rw [h n (by omega), scF_congr (fun k hk => h k (by omega))]
theorem loF_congr {dy dy' lo lo' : Nat → Int32} {e : Nat} : ∀ {n : Nat}, (∀ k, k < n → dy k = dy' k) → (∀ k, k < n → lo k = lo' k) → loF dy lo e n = loF dy' lo' e n
  | 0, _, _ => rfl
  | n + 1, h, h2 => by simp only [loF]; rw [h n (by omega), h2 n (by omega), loF_congr (fun k hk => h k (by omega)) (fun k hk => h2 k (by omega))]
theorem niF_congr {dy dy' lo lo' : Nat → Int32} {e : Nat} : ∀ {n : Nat}, (∀ k, k < n → dy k = dy' k) → (∀ k, k < n → lo k = lo' k) → niF dy lo e n = niF dy' lo' e n
  | 0, _, _ => rfl
  | n + 1, h, h2 => by simp only [niF]; rw [h n (by omega), h2 n (by omega), niF_congr (fun k hk => h k (by omega)) (fun k hk => h2 k (by omega))]
theorem leF_congr {dy dy' lo lo' : Nat → Int32} {e : Nat} : ∀ {n : Nat}, (∀ k, k < n → dy k = dy' k) → (∀ k, k < n → lo k = lo' k) → leF dy lo e n = leF dy' lo' e n
  | 0, _, _ => rfl
  | n + 1, h, h2 => by simp only [leF]; rw [h n (by omega), h2 n (by omega), leF_congr (fun k hk => h k (by omega)) (fun k hk => h2 k (by omega))]
theorem caF_congr {dy dy' lo lo' : Nat → Int32} {e : Nat} : ∀ {n : Nat}, (∀ k, k < n → dy k = dy' k) → (∀ k, k < n → lo k = lo' k) → caF dy lo e n = caF dy' lo' e n
  | 0, _, _ => rfl
  | n + 1, h, h2 => by simp only [caF]; rw [h n (by omega), h2 n (by omega), caF_congr (fun k hk => h k (by omega)) (fun k hk => h2 k (by omega))]
theorem shows.congr {dy dy' : Nat → Int32} {n : Nat} (h : shows σ t p dy n) (e : ∀ k, k < n → dy k = dy' k) : shows σ t p dy' n := by
  intro j hj
  obtain ⟨s1, s2, s3, s4, s5⟩ := h j hj
  exact ⟨s1.trans (scF_congr e), s2.trans (loF_congr e (fun _ _ => rfl)), s3.trans (niF_congr e (fun _ _ => rfl)), s4.trans (leF_congr e (fun _ _ => rfl)), s5.trans (caF_congr e (fun _ _ => rfl))⟩
theorem c_build (hD : shD S t p) (hP : shP S p) (hpt : p + 12 ≤ t) {nS : Nat} (hnS : nS ≤ 14) (hc : σ p 7 = nI nS) (hni : ∀ k, k < nS → σ (p + 8) k = 0 ∨ σ (p + 8) k = 1) : fs_Ct g m_X0_build [.ref t] ((S, fr), σ, τ) (fun r M' => r = none ∧ ∃ σ', M' = ((S, fr), σ', τ) ∧ same σ σ' (inT t) ∧ shows σ' t p (σ (p + 10)) nS) := by
  refine fs_enterC (by decide) (by simp [fs_ok]) (Nat.le_of_ble_eq_true rfl) (fun d => S_X0_build_0 ?_)
  show T_X0_build_0 g d _ [.ref t] [] _
  simp only [T_X0_build_0, fi_const, fi_iload, fi_aload, fi_istore, fi_astore, fi_iinc, fi_bin, fi_div, fi_un, fi_dup, fi_dup2, fi_pop, fi_if, fi_cmp, fi_getf, fi_putf, fi_putr, fi_ald, fi_ast, fi_alen, fi_iret, fi_zret, fi_vret, fi_cut, fi_no, fi_s0, fi_s1, fi_s2, fi_s3, fi_s4, fi_v0, fi_v1, fi_v2, fi_v3, fi_v4, fi_v5, fi_n0, fi_n1, fi_n2, fi_mm, fi_stat, fi_alds, fi_tsw, List.getElem?_cons_zero, List.getElem?_cons_succ, List.set_cons_zero, List.set_cons_succ, List.length_cons, List.length_nil, Option.toList_some, Option.toList_none, List.cons_append, List.nil_append, Value.category, true_and, k_0, k_1, k_2, k_3, k_4, false_implies, true_implies, reduceCtorEq]
  refine ⟨by decide, ⟨_, hD.1⟩, (c_buildWithout hD hP hpt hnS _ hc hni).mono ?_⟩
  rintro r M' ⟨rfl, σ', rfl, hs', hv⟩
  simp only [fi_const, fi_iload, fi_aload, fi_istore, fi_astore, fi_iinc, fi_bin, fi_div, fi_un, fi_dup, fi_dup2, fi_pop, fi_if, fi_cmp, fi_getf, fi_putf, fi_putr, fi_ald, fi_ast, fi_alen, fi_iret, fi_zret, fi_vret, fi_cut, fi_no, fi_s0, fi_s1, fi_s2, fi_s3, fi_s4, fi_v0, fi_v1, fi_v2, fi_v3, fi_v4, fi_v5, fi_n0, fi_n1, fi_n2, fi_mm, fi_stat, fi_alds, fi_tsw, List.getElem?_cons_zero, List.getElem?_cons_succ, List.set_cons_zero, List.set_cons_succ, List.length_cons, List.length_nil, Option.toList_some, Option.toList_none, List.cons_append, List.nil_append, Value.category, true_and, k_0, k_1, k_2, k_3, k_4, false_implies, true_implies, reduceCtorEq]
  exact ⟨σ', rfl, hs', hv.congr (fun k hk => dyW_m1 _ (by omega))⟩
/-- two days exchanged -/
def exD (x a b : Int32) : Int32 := if x = a then b else if x = b then a else x
theorem c_exchanged (x a b : Int32) {M : fs_M} : fs_Ct g m_X8_exchanged [.int x, .int a, .int b] M (fun r M' => r = some (.int (exD x a b)) ∧ M = M') := by
  refine fs_enterC (by decide) (by simp [fs_ok]) (Nat.le_of_ble_eq_true rfl) (fun d => S_X8_exchanged_0 ?_)
  show T_X8_exchanged_0 g d _ [.int x, .int a, .int b] [] _
  simp only [T_X8_exchanged_0, fi_const, fi_iload, fi_aload, fi_istore, fi_astore, fi_iinc, fi_bin, fi_div, fi_un, fi_dup, fi_dup2, fi_pop, fi_if, fi_cmp, fi_getf, fi_putf, fi_putr, fi_ald, fi_ast, fi_alen, fi_iret, fi_zret, fi_vret, fi_cut, fi_no, fi_s0, fi_s1, fi_s2, fi_s3, fi_s4, fi_v0, fi_v1, fi_v2, fi_v3, fi_v4, fi_v5, fi_n0, fi_n1, fi_n2, fi_mm, fi_stat, fi_alds, fi_tsw, List.getElem?_cons_zero, List.getElem?_cons_succ, List.set_cons_zero, List.set_cons_succ, List.length_cons, List.length_nil, Option.toList_some, Option.toList_none, List.cons_append, List.nil_append, Value.category, true_and, k_0, k_1, k_2, k_3, k_4, false_implies, true_implies, reduceCtorEq]
  exact ⟨fun h => by rw [exD, if_pos h]; exact ⟨rfl, trivial⟩, fun h => ⟨fun h2 => by rw [exD, if_neg h, if_pos h2]; exact ⟨rfl, trivial⟩, fun h2 => by rw [exD, if_neg h, if_neg h2]; exact ⟨rfl, trivial⟩⟩⟩
theorem l_buildExchanged (hD : shD S t p) (hP : shP S p) (hpt : p + 12 ≤ t) {nS : Nat} (hnS : nS ≤ 14) (a b : Int32) (σ0 : Nat → Nat → Int32) (hc : σ0 p 7 = nI nS) (hni : ∀ k, k < nS → σ0 (p + 8) k = 0 ∨ σ0 (p + 8) k = 1) : ∀ n k σ, k + n = nS → same σ0 σ (inT t) → shows σ t p (fun k => exD (σ0 (p + 10) k) a b) k → fs_R g m_X0_buildExchanged d (0, 0) 6 [.ref t, .int a, .int b, .int (nI k)] [] ((S, fr), σ, τ) (fun r M' => r = none ∧ ∃ σ', M' = ((S, fr), σ', τ) ∧ same σ0 σ' (inT t) ∧ shows σ' t p (fun k => exD (σ0 (p + 10) k) a b) nS)
  | n, k, σ, h, hs, hv => by
    have f6 : ∀ i, i < 12 → σ (p + i) = σ0 (p + i) := fun i hi => hs (p + i) (fun z => by have := z.1; omega)
    have f0 : σ p = σ0 p := f6 0 (by decide)
    have hk31 : k < 2 ^ 31 := by omega
    refine S_X0_buildExchanged_6 ?_
    simp only [T_X0_buildExchanged_6, fi_const, fi_iload, fi_aload, fi_istore, fi_astore, fi_iinc, fi_bin, fi_div, fi_un, fi_dup, fi_dup2, fi_pop, fi_if, fi_cmp, fi_getf, fi_putf, fi_putr, fi_ald, fi_ast, fi_alen, fi_iret, fi_zret, fi_vret, fi_cut, fi_no, fi_s0, fi_s1, fi_s2, fi_s3, fi_s4, fi_v0, fi_v1, fi_v2, fi_v3, fi_v4, fi_v5, fi_n0, fi_n1, fi_n2, fi_mm, fi_stat, fi_alds, fi_tsw, List.getElem?_cons_zero, List.getElem?_cons_succ, List.set_cons_zero, List.set_cons_succ, List.length_cons, List.length_nil, Option.toList_some, Option.toList_none, List.cons_append, List.nil_append, Value.category, true_and, k_0, k_1, k_2, k_3, k_4, false_implies, true_implies, reduceCtorEq, hD.1, hP.1, f0, hc, nI_1, hP.2.2.2.2.2.2.2.2.2.2.1, nI_clamp hk31]
    refine pk_le nS k (fun _ => ?_) (fun h2 => ?_)
    · exact ⟨σ, rfl, hs, by rw [show nS = k by omega]; exact hv⟩
    · obtain ⟨n', rfl⟩ : ∃ n', n = n' + 1 := ⟨n - 1, by omega⟩
      refine ⟨vp_in_nI (by omega) (by decide), by decide, (c_exchanged _ _ _).mono ?_⟩
      rintro r M' ⟨rfl, rfl⟩
      simp only [fi_const, fi_iload, fi_aload, fi_istore, fi_astore, fi_iinc, fi_bin, fi_div, fi_un, fi_dup, fi_dup2, fi_pop, fi_if, fi_cmp, fi_getf, fi_putf, fi_putr, fi_ald, fi_ast, fi_alen, fi_iret, fi_zret, fi_vret, fi_cut, fi_no, fi_s0, fi_s1, fi_s2, fi_s3, fi_s4, fi_v0, fi_v1, fi_v2, fi_v3, fi_v4, fi_v5, fi_n0, fi_n1, fi_n2, fi_mm, fi_stat, fi_alds, fi_tsw, List.getElem?_cons_zero, List.getElem?_cons_succ, List.set_cons_zero, List.set_cons_succ, List.length_cons, List.length_nil, Option.toList_some, Option.toList_none, List.cons_append, List.nil_append, Value.category, true_and, k_0, k_1, k_2, k_3, k_4, false_implies, true_implies, reduceCtorEq]
      refine ⟨by decide, ⟨_, hD.1⟩, (c_addScene hD hP hpt (by omega) _ ?_).mono ?_⟩
      · rw [f6 8 (by decide)]
        exact hni k (by omega)
      · rintro r M' ⟨rfl, σ', rfl, hs', hp⟩
        simp only [fi_const, fi_iload, fi_aload, fi_istore, fi_astore, fi_iinc, fi_bin, fi_div, fi_un, fi_dup, fi_dup2, fi_pop, fi_if, fi_cmp, fi_getf, fi_putf, fi_putr, fi_ald, fi_ast, fi_alen, fi_iret, fi_zret, fi_vret, fi_cut, fi_no, fi_s0, fi_s1, fi_s2, fi_s3, fi_s4, fi_v0, fi_v1, fi_v2, fi_v3, fi_v4, fi_v5, fi_n0, fi_n1, fi_n2, fi_mm, fi_stat, fi_alds, fi_tsw, List.getElem?_cons_zero, List.getElem?_cons_succ, List.set_cons_zero, List.set_cons_succ, List.length_cons, List.length_nil, Option.toList_some, Option.toList_none, List.cons_append, List.nil_append, Value.category, true_and, k_0, k_1, k_2, k_3, k_4, false_implies, true_implies, reduceCtorEq, nI_1]
        refine l_buildExchanged hD hP hpt hnS a b σ0 hc hni n' (k + 1) σ' (by omega) (hs.tr hs') (shows_plus hv hs' hpt ?_)
        rw [f6 10 (by decide)] at hp
        exact hp
theorem c_buildExchanged (hD : shD S t p) (hP : shP S p) (hpt : p + 12 ≤ t) {nS : Nat} (hnS : nS ≤ 14) (a b : Int32) (hc : σ p 7 = nI nS) (hni : ∀ k, k < nS → σ (p + 8) k = 0 ∨ σ (p + 8) k = 1) : fs_Ct g m_X0_buildExchanged [.ref t, .int a, .int b] ((S, fr), σ, τ) (fun r M' => r = none ∧ ∃ σ', M' = ((S, fr), σ', τ) ∧ same σ σ' (inT t) ∧ shows σ' t p (fun k => exD (σ (p + 10) k) a b) nS) := by
  refine fs_enterC (by decide) (by simp [fs_ok]) (Nat.le_of_ble_eq_true rfl) (fun d => S_X0_buildExchanged_0 ?_)
  show T_X0_buildExchanged_0 g d _ [.ref t, .int a, .int b, .null] [] _
  simp only [T_X0_buildExchanged_0, fi_const, fi_iload, fi_aload, fi_istore, fi_astore, fi_iinc, fi_bin, fi_div, fi_un, fi_dup, fi_dup2, fi_pop, fi_if, fi_cmp, fi_getf, fi_putf, fi_putr, fi_ald, fi_ast, fi_alen, fi_iret, fi_zret, fi_vret, fi_cut, fi_no, fi_s0, fi_s1, fi_s2, fi_s3, fi_s4, fi_v0, fi_v1, fi_v2, fi_v3, fi_v4, fi_v5, fi_n0, fi_n1, fi_n2, fi_mm, fi_stat, fi_alds, fi_tsw, List.getElem?_cons_zero, List.getElem?_cons_succ, List.set_cons_zero, List.set_cons_succ, List.length_cons, List.length_nil, Option.toList_some, Option.toList_none, List.cons_append, List.nil_append, Value.category, true_and, k_0, k_1, k_2, k_3, k_4, false_implies, true_implies, reduceCtorEq]
  refine ⟨by decide, ⟨_, hD.1⟩, (c_clearDays hD).mono ?_⟩
  rintro r M' ⟨rfl, σ', rfl, hs', hv⟩
  simp only [fi_const, fi_iload, fi_aload, fi_istore, fi_astore, fi_iinc, fi_bin, fi_div, fi_un, fi_dup, fi_dup2, fi_pop, fi_if, fi_cmp, fi_getf, fi_putf, fi_putr, fi_ald, fi_ast, fi_alen, fi_iret, fi_zret, fi_vret, fi_cut, fi_no, fi_s0, fi_s1, fi_s2, fi_s3, fi_s4, fi_v0, fi_v1, fi_v2, fi_v3, fi_v4, fi_v5, fi_n0, fi_n1, fi_n2, fi_mm, fi_stat, fi_alds, fi_tsw, List.getElem?_cons_zero, List.getElem?_cons_succ, List.set_cons_zero, List.set_cons_succ, List.length_cons, List.length_nil, Option.toList_some, Option.toList_none, List.cons_append, List.nil_append, Value.category, true_and, k_0, k_1, k_2, k_3, k_4, false_implies, true_implies, reduceCtorEq]
  exact l_buildExchanged hD hP hpt hnS a b σ hc hni nS 0 σ' (by omega) hs' (fun e he => hv e he)
end PD2
