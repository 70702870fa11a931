/-! ===== questions to the class: places and rain ===== -/
def suF (lo ni le : Nat → Int32) (l nt : Int32) : Nat → Nat → Int32 → Int32
  | 0, _, s => s
  | n + 1, k, s => suF lo ni le l nt n (k + 1) (if lo k = l ∧ ni k = nt then s + le k else s)
def faV (V : Vt) (nS l : Nat) (nt : Int32) : Int32 := (suF (v_lo V) (v_ni V) (v_le V) (nI l) nt nS 0 0 + V 4 0 - 1) / V 4 0
def fwF (f : Nat → Int32) : Nat → Nat → Int32 → Int32
  | 0, _, s => s
  | n + 1, k, s => fwF f n (k + 1) (s + f k)
def fwV (V : Vt) (nL nS : Nat) : Int32 := fwF (fun l => faV V nS l 0 + faV V nS l 1) nL 0 0
def waV (V : Vt) (nS l : Nat) (nt : Int32) : Int32 := suF (v_lo V) (fun k => if v_dy V k = -1 then v_ni V k else -1) (fun _ => 1) (nI l) nt nS 0 0
theorem cv_congr {sc lo ni cs inn sc' lo' ni' cs' inn' : Nat → Int32} {q ti : Int32} (h : ∀ e, e < 12 → sc e = sc' e ∧ ni e = ni' e ∧ cs e = cs' e ∧ ouF sc lo inn e = ouF sc' lo' inn' e) : ∀ n k, k + n ≤ 12 → cvF sc lo ni cs inn q ti n k = cvF sc' lo' ni' cs' inn' q ti n k
  | 0, k, _ => rfl
  | n + 1, k, hk => by
    obtain ⟨h1, h2, h3, h4⟩ := h k (by omega)
    have er : reR ni cs ti k = reR ni' cs' ti k := by unfold reR; rw [h2, h3]
    simp only [cvF]
    rw [h1, er, h4, cv_congr h n (k + 1) (by omega)]
theorem rn_congr {sc lo ni cs inn sc' lo' ni' cs' inn' : Nat → Int32} {rain : Int32} (h : ∀ e, e < 12 → sc e = sc' e ∧ ni e = ni' e ∧ cs e = cs' e ∧ ouF sc lo inn e = ouF sc' lo' inn' e) : ∀ n c q ti ls sh, d12 q → rnG sc lo ni cs inn rain n c q ti ls sh = rnG sc' lo' ni' cs' inn' rain n c q ti ls sh
  | 0, c, q, ti, ls, sh, _ => rfl
  | n + 1, c, q, ti, ls, sh, h12 => by
    simp only [rnG]
    by_cases h0 : q = 0
    · rw [if_pos h0, if_pos h0]
    · rw [if_neg h0, if_neg h0]
      have hi := fiN_lt h12 h0
      have hb : bt q (fiN (bt q) 12 0) = true := (fiN_spec (f := bt q) 12 0).2.2.1 (by omega)
      obtain ⟨i1, i2, i3, i4⟩ := h _ hi
      have e1 : cvF sc lo ni cs inn q ti (11 - fiN (bt q) 12 0) (fiN (bt q) 12 0 + 1) = cvF sc' lo' ni' cs' inn' q ti (11 - fiN (bt q) 12 0) (fiN (bt q) 12 0 + 1) := cv_congr h _ _ (by omega)
      have e2 : chF sc lo ni cs inn q ti (raB rain c) (fiN (bt q) 12 0) = chF sc' lo' ni' cs' inn' q ti (raB rain c) (fiN (bt q) 12 0) := by
        have er : reR ni cs ti (fiN (bt q) 12 0) = reR ni' cs' ti (fiN (bt q) 12 0) := by unfold reR; rw [i2, i3]
        simp only [chF]
        rw [e1, er, i4]
      have e3 : lfF sc lo ni cs inn q ti (raB rain c) (fiN (bt q) 12 0) = lfF sc' lo' ni' cs' inn' q ti (raB rain c) (fiN (bt q) 12 0) := by
        simp only [lfF]
        rw [e1, i4]
      have e4 : tiF ni cs (chF sc' lo' ni' cs' inn' q ti (raB rain c) (fiN (bt q) 12 0)) = tiF ni' cs' (chF sc' lo' ni' cs' inn' q ti (raB rain c) (fiN (bt q) 12 0)) := by
        rcases chF_spec (sc := sc') (lo := lo') (ni := ni') (cs := cs') (inn := inn') (ti := ti) (rn := raB rain c) hi hb with w | ⟨j, hj, w, -⟩
        · rw [w]; simp [tiF]
        · rw [w]
          simp only [tiF, nI_clamp (show j < 2 ^ 31 by omega)]
          obtain ⟨-, j2, j3, -⟩ := h j hj
          rw [j2, j3]
      rw [e2, e3, e4]
      exact rn_congr h n (c + 1) _ _ _ _ (qx_d12 h12 _)
/-- the rain of V -/
def rnV (V : Vt) (nS : Nat) (rain : Int32) : Nat × Int32 × (Nat → Int32) := rnT (fun e => scF (v_dy V) e nS) (plF (v_dy V) (v_lo V) nS) (pnF (v_dy V) (v_ni V) nS) (fun e => caF (v_dy V) (v_ca V) e nS) (fr_ (V 2) 8) rain
abbrev raI (x : Int32) : Prop := ¬ x < 0 ∧ ¬ 4095 < x
section PQ5
variable {g : fs_G} {d : Nat} {S : List fs_Sh} {fr : Bool} {σ : Nat → Nat → Int32} {τ : Nat → Nat → Int64} {V : Vt} {nL nA nS kp nb : Nat}
theorem l_fewAt (hX : shX S) (hT : okT V nL nA nS) (hN : okN V nS (V 4)) (h : IC σ V nL nA nS kp nb) (l : Nat) (nt : Int32) : ∀ n k s, k + n = nS → fs_R g m_X8_fewestDaysAt d (0, 0) 5 [.ref 0, .int (nI l), .int nt, .int s, .int (nI k)] [] ((S, fr), σ, τ) (fun r M' => r = some (.int ((suF (v_lo V) (v_ni V) (v_le V) (nI l) nt n k s + V 4 0 - 1) / V 4 0)) ∧ ((S, fr), σ, τ) = M')
  | 0, k, s, hk => by
    have hP := hX.2.2.1
    have hn := hT.2.2.2.2.2.1
    obtain ⟨⟨c, hc1, hc2, ec⟩, -⟩ := hN
    refine S_X8_fewestDaysAt_5 ?_
    simp only [T_X8_fewestDaysAt_5, fi_const, fi_iload, fi_aload, fi_istore, fi_astore, fi_iinc, fi_bin, fi_div, fi_un, fi_dup, fi_dup2, fi_pop, fi_if, fi_cmp, fi_getf, fi_putf, fi_putr, fi_ald, fi_ast, fi_alen, fi_iret, fi_zret, fi_vret, fi_cut, fi_no, fi_s0, fi_s1, fi_s2, fi_s3, fi_s4, fi_v0, fi_v1, fi_v2, fi_v3, fi_v4, fi_v5, fi_n0, fi_n1, fi_n2, fi_mm, fi_stat, fi_alds, fi_tsw, List.getElem?_cons_zero, List.getElem?_cons_succ, List.set_cons_zero, List.set_cons_succ, List.length_cons, List.length_nil, Option.toList_some, Option.toList_none, List.cons_append, List.nil_append, Value.category, true_and, k_0, k_1, k_2, k_3, k_4, false_implies, true_implies, reduceCtorEq, hX.1, hP.1, h.1.2.2, hP.2.2.2.2.2.2.2.2.2.2.2]
    refine pk_le nS k (fun _ => ?_) (fun z => by omega)
    have e13 : σ 13 0 = nI c := by rw [h.set (by decide)]; exact ec
    simp only [show 2 + 11 = 13 from rfl, e13, ec, suF, show (0 : Int32).toNatClampNeg = 0 from rfl]
    refine ⟨pk_in 0 4 (by decide), ?_⟩
    refine pk_le c 0 (fun z => by omega) (fun z => ⟨fun z2 => ?_, trivial, trivial⟩)
    have := congrArg Int32.toNatClampNeg z2
    rw [nI_clamp (by omega)] at this
    simp at this
    omega
  | n + 1, k, s, hk => by
    have hP := hX.2.2.1
    have hn := hT.2.2.2.2.2.1
    have h4 := h.2.2.2.1 k (by omega)
    have hik : vp_in (nI k) 14 := vp_in_nI (by omega) (by decide)
    refine S_X8_fewestDaysAt_5 ?_
    simp only [T_X8_fewestDaysAt_5, fi_const, fi_iload, fi_aload, fi_istore, fi_astore, fi_iinc, fi_bin, fi_div, fi_un, fi_dup, fi_dup2, fi_pop, fi_if, fi_cmp, fi_getf, fi_putf, fi_putr, fi_ald, fi_ast, fi_alen, fi_iret, fi_zret, fi_vret, fi_cut, fi_no, fi_s0, fi_s1, fi_s2, fi_s3, fi_s4, fi_v0, fi_v1, fi_v2, fi_v3, fi_v4, fi_v5, fi_n0, fi_n1, fi_n2, fi_mm, fi_stat, fi_alds, fi_tsw, List.getElem?_cons_zero, List.getElem?_cons_succ, List.set_cons_zero, List.set_cons_succ, List.length_cons, List.length_nil, Option.toList_some, Option.toList_none, List.cons_append, List.nil_append, Value.category, true_and, k_0, k_1, k_2, k_3, k_4, false_implies, true_implies, reduceCtorEq, hX.1, hP.1, h.1.2.2]
    refine pk_le nS k (fun z => by omega) (fun _ => ⟨by decide, ⟨_, rfl⟩, (c_isAt hP (nI l) nt (show k < 14 by omega)).mono ?_⟩)
    rintro r M' ⟨rfl, rfl⟩
    simp only [fi_const, fi_iload, fi_aload, fi_istore, fi_astore, fi_iinc, fi_bin, fi_div, fi_un, fi_dup, fi_dup2, fi_pop, fi_if, fi_cmp, fi_getf, fi_putf, fi_putr, fi_ald, fi_ast, fi_alen, fi_iret, fi_zret, fi_vret, fi_cut, fi_no, fi_s0, fi_s1, fi_s2, fi_s3, fi_s4, fi_v0, fi_v1, fi_v2, fi_v3, fi_v4, fi_v5, fi_n0, fi_n1, fi_n2, fi_mm, fi_stat, fi_alds, fi_tsw, List.getElem?_cons_zero, List.getElem?_cons_succ, List.set_cons_zero, List.set_cons_succ, List.length_cons, List.length_nil, Option.toList_some, Option.toList_none, List.cons_append, List.nil_append, Value.category, true_and, k_0, k_1, k_2, k_3, k_4, false_implies, true_implies, reduceCtorEq, bI_eq0, hX.1, hP.1, hP.2.2.2.2.2.2.2.1, nI_clamp (show k < 2 ^ 31 by omega), hik, nI_1, show 2 + 7 = 9 from rfl, show 2 + 6 = 8 from rfl, show 2 + 8 = 10 from rfl, h4.1, h4.2.1, h4.2.2.1]
    refine ⟨fun q => ?_, fun q => ?_⟩
    · rw [suF, if_neg (by simpa using q)]
      exact l_fewAt hX hT hN h l nt n (k + 1) _ (by omega)
    · rw [suF, if_pos (by simpa using q)]
      exact l_fewAt hX hT hN h l nt n (k + 1) _ (by omega)
theorem c_fewAt (hX : shX S) (hT : okT V nL nA nS) (hN : okN V nS (V 4)) (h : IC σ V nL nA nS kp nb) (l : Nat) (nt : Int32) : fs_Ct g m_X8_fewestDaysAt [.ref 0, .int (nI l), .int nt] ((S, fr), σ, τ) (fun r M' => r = some (.int (faV V nS l nt)) ∧ ((S, fr), σ, τ) = M') := by
  refine fs_enterC (by decide) (by simp [fs_ok]) (Nat.le_of_ble_eq_true rfl) (fun d => S_X8_fewestDaysAt_0 ?_)
  show T_X8_fewestDaysAt_0 g d _ [.ref 0, .int (nI l), .int nt, .null, .null] [] _
  simp only [T_X8_fewestDaysAt_0, fi_const, fi_iload, fi_aload, fi_istore, fi_astore, fi_iinc, fi_bin, fi_div, fi_un, fi_dup, fi_dup2, fi_pop, fi_if, fi_cmp, fi_getf, fi_putf, fi_putr, fi_ald, fi_ast, fi_alen, fi_iret, fi_zret, fi_vret, fi_cut, fi_no, fi_s0, fi_s1, fi_s2, fi_s3, fi_s4, fi_v0, fi_v1, fi_v2, fi_v3, fi_v4, fi_v5, fi_n0, fi_n1, fi_n2, fi_mm, fi_stat, fi_alds, fi_tsw, List.getElem?_cons_zero, List.getElem?_cons_succ, List.set_cons_zero, List.set_cons_succ, List.length_cons, List.length_nil, Option.toList_some, Option.toList_none, List.cons_append, List.nil_append, Value.category, true_and, k_0, k_1, k_2, k_3, k_4, false_implies, true_implies, reduceCtorEq]
  exact l_fewAt hX hT hN h l nt nS 0 0 (by omega)
theorem l_fewestDays (hX : shX S) (hT : okT V nL nA nS) (hN : okN V nS (V 4)) (h : IC σ V nL nA nS kp nb) : ∀ n k s, k + n = nL → fs_R g m_X8_fewestDays d (0, 0) 4 [.ref 0, .int s, .int (nI k)] [] ((S, fr), σ, τ) (fun r M' => r = some (.int (fwF (fun l => faV V nS l 0 + faV V nS l 1) n k s)) ∧ ((S, fr), σ, τ) = M')
  | 0, k, s, hk => by
    have hP := hX.2.2.1
    have hL := hT.2.2.2.1
    refine S_X8_fewestDays_4 ?_
    simp only [T_X8_fewestDays_4, fi_const, fi_iload, fi_aload, fi_istore, fi_astore, fi_iinc, fi_bin, fi_div, fi_un, fi_dup, fi_dup2, fi_pop, fi_if, fi_cmp, fi_getf, fi_putf, fi_putr, fi_ald, fi_ast, fi_alen, fi_iret, fi_zret, fi_vret, fi_cut, fi_no, fi_s0, fi_s1, fi_s2, fi_s3, fi_s4, fi_v0, fi_v1, fi_v2, fi_v3, fi_v4, fi_v5, fi_n0, fi_n1, fi_n2, fi_mm, fi_stat, fi_alds, fi_tsw, List.getElem?_cons_zero, List.getElem?_cons_succ, List.set_cons_zero, List.set_cons_succ, List.length_cons, List.length_nil, Option.toList_some, Option.toList_none, List.cons_append, List.nil_append, Value.category, true_and, k_0, k_1, k_2, k_3, k_4, false_implies, true_implies, reduceCtorEq, hX.1, hP.1, h.1.1]
    refine pk_le nL k (fun _ => ?_) (fun z => by omega)
    simp [fwF]
  | n + 1, k, s, hk => by
    have hP := hX.2.2.1
    have hL := hT.2.2.2.1
    refine S_X8_fewestDays_4 ?_
    simp only [T_X8_fewestDays_4, fi_const, fi_iload, fi_aload, fi_istore, fi_astore, fi_iinc, fi_bin, fi_div, fi_un, fi_dup, fi_dup2, fi_pop, fi_if, fi_cmp, fi_getf, fi_putf, fi_putr, fi_ald, fi_ast, fi_alen, fi_iret, fi_zret, fi_vret, fi_cut, fi_no, fi_s0, fi_s1, fi_s2, fi_s3, fi_s4, fi_v0, fi_v1, fi_v2, fi_v3, fi_v4, fi_v5, fi_n0, fi_n1, fi_n2, fi_mm, fi_stat, fi_alds, fi_tsw, List.getElem?_cons_zero, List.getElem?_cons_succ, List.set_cons_zero, List.set_cons_succ, List.length_cons, List.length_nil, Option.toList_some, Option.toList_none, List.cons_append, List.nil_append, Value.category, true_and, k_0, k_1, k_2, k_3, k_4, false_implies, true_implies, reduceCtorEq, hX.1, hP.1, h.1.1]
    refine pk_le nL k (fun z => by omega) (fun _ => ⟨by decide, ⟨_, rfl⟩, (c_fewAt hX hT hN h k 0).mono ?_⟩)
    rintro r M' ⟨rfl, rfl⟩
    simp only [fi_const, fi_iload, fi_aload, fi_istore, fi_astore, fi_iinc, fi_bin, fi_div, fi_un, fi_dup, fi_dup2, fi_pop, fi_if, fi_cmp, fi_getf, fi_putf, fi_putr, fi_ald, fi_ast, fi_alen, fi_iret, fi_zret, fi_vret, fi_cut, fi_no, fi_s0, fi_s1, fi_s2, fi_s3, fi_s4, fi_v0, fi_v1, fi_v2, fi_v3, fi_v4, fi_v5, fi_n0, fi_n1, fi_n2, fi_mm, fi_stat, fi_alds, fi_tsw, List.getElem?_cons_zero, List.getElem?_cons_succ, List.set_cons_zero, List.set_cons_succ, List.length_cons, List.length_nil, Option.toList_some, Option.toList_none, List.cons_append, List.nil_append, Value.category, true_and, k_0, k_1, k_2, k_3, k_4, false_implies, true_implies, reduceCtorEq, hX.1]
    refine ⟨by decide, ⟨_, rfl⟩, (c_fewAt hX hT hN h k 1).mono ?_⟩
    rintro r M' ⟨rfl, rfl⟩
    simp only [fi_const, fi_iload, fi_aload, fi_istore, fi_astore, fi_iinc, fi_bin, fi_div, fi_un, fi_dup, fi_dup2, fi_pop, fi_if, fi_cmp, fi_getf, fi_putf, fi_putr, fi_ald, fi_ast, fi_alen, fi_iret, fi_zret, fi_vret, fi_cut, fi_no, fi_s0, fi_s1, fi_s2, fi_s3, fi_s4, fi_v0, fi_v1, fi_v2, fi_v3, fi_v4, fi_v5, fi_n0, fi_n1, fi_n2, fi_mm, fi_stat, fi_alds, fi_tsw, List.getElem?_cons_zero, List.getElem?_cons_succ, List.set_cons_zero, List.set_cons_succ, List.length_cons, List.length_nil, Option.toList_some, Option.toList_none, List.cons_append, List.nil_append, Value.category, true_and, k_0, k_1, k_2, k_3, k_4, false_implies, true_implies, reduceCtorEq, nI_1]
    exact l_fewestDays hX hT hN h n (k + 1) _ (by omega)
theorem a_fewestDays (hX : shX S) (hT : okT V nL nA nS) (hN : okN V nS (V 4)) : askC g S fr τ V nL nA nS kp nb m_X8_fewestDays [.ref 0] (fwV V nL nS) := by
  intro σ h
  refine fs_enterC (by decide) (by simp [fs_ok]) (Nat.le_of_ble_eq_true rfl) (fun d => S_X8_fewestDays_0 ?_)
  show T_X8_fewestDays_0 g d _ [.ref 0, .null, .null] [] _
  simp only [T_X8_fewestDays_0, fi_const, fi_iload, fi_aload, fi_istore, fi_astore, fi_iinc, fi_bin, fi_div, fi_un, fi_dup, fi_dup2, fi_pop, fi_if, fi_cmp, fi_getf, fi_putf, fi_putr, fi_ald, fi_ast, fi_alen, fi_iret, fi_zret, fi_vret, fi_cut, fi_no, fi_s0, fi_s1, fi_s2, fi_s3, fi_s4, fi_v0, fi_v1, fi_v2, fi_v3, fi_v4, fi_v5, fi_n0, fi_n1, fi_n2, fi_mm, fi_stat, fi_alds, fi_tsw, List.getElem?_cons_zero, List.getElem?_cons_succ, List.set_cons_zero, List.set_cons_succ, List.length_cons, List.length_nil, Option.toList_some, Option.toList_none, List.cons_append, List.nil_append, Value.category, true_and, k_0, k_1, k_2, k_3, k_4, false_implies, true_implies, reduceCtorEq]
  refine fs_R_mono (l_fewestDays hX hT hN h nL 0 0 (by omega)) ?_
  rintro r M' ⟨rfl, rfl⟩
  exact ⟨rfl, σ, rfl, h, fun _ _ => rfl⟩
theorem l_waitingFor (hX : shX S) (hT : okT V nL nA nS) (h : IC σ V nL nA nS kp nb) (l : Nat) (nt : Int32) (hnt : nt = 0 ∨ nt = 1) : ∀ n k s, k + n = nS → fs_R g m_X8_waitingFor d (0, 0) 16 [.ref 0, .int (nI l), .int nt, .int s, .int (nI k)] [] ((S, fr), σ, τ) (fun r M' => r = some (.int (suF (v_lo V) (fun k => if v_dy V k = -1 then v_ni V k else -1) (fun _ => 1) (nI l) nt n k s)) ∧ ((S, fr), σ, τ) = M')
  | 0, k, s, hk => by
    have hP := hX.2.2.1
    have hn := hT.2.2.2.2.2.1
    refine S_X8_waitingFor_16 ?_
    simp only [T_X8_waitingFor_16, fi_const, fi_iload, fi_aload, fi_istore, fi_astore, fi_iinc, fi_bin, fi_div, fi_un, fi_dup, fi_dup2, fi_pop, fi_if, fi_cmp, fi_getf, fi_putf, fi_putr, fi_ald, fi_ast, fi_alen, fi_iret, fi_zret, fi_vret, fi_cut, fi_no, fi_s0, fi_s1, fi_s2, fi_s3, fi_s4, fi_v0, fi_v1, fi_v2, fi_v3, fi_v4, fi_v5, fi_n0, fi_n1, fi_n2, fi_mm, fi_stat, fi_alds, fi_tsw, List.getElem?_cons_zero, List.getElem?_cons_succ, List.set_cons_zero, List.set_cons_succ, List.length_cons, List.length_nil, Option.toList_some, Option.toList_none, List.cons_append, List.nil_append, Value.category, true_and, k_0, k_1, k_2, k_3, k_4, false_implies, true_implies, reduceCtorEq, hX.1, hP.1, h.1.2.2]
    refine pk_le nS k (fun _ => ?_) (fun z => by omega)
    simp [suF]
  | n + 1, k, s, hk => by
    have hP := hX.2.2.1
    have hn := hT.2.2.2.2.2.1
    have h4 := h.2.2.2.1 k (by omega)
    have h5 := h.2.2.2.2.1 k (by omega)
    have hik : vp_in (nI k) 14 := vp_in_nI (by omega) (by decide)
    refine S_X8_waitingFor_16 ?_
    simp only [T_X8_waitingFor_16, fi_const, fi_iload, fi_aload, fi_istore, fi_astore, fi_iinc, fi_bin, fi_div, fi_un, fi_dup, fi_dup2, fi_pop, fi_if, fi_cmp, fi_getf, fi_putf, fi_putr, fi_ald, fi_ast, fi_alen, fi_iret, fi_zret, fi_vret, fi_cut, fi_no, fi_s0, fi_s1, fi_s2, fi_s3, fi_s4, fi_v0, fi_v1, fi_v2, fi_v3, fi_v4, fi_v5, fi_n0, fi_n1, fi_n2, fi_mm, fi_stat, fi_alds, fi_tsw, List.getElem?_cons_zero, List.getElem?_cons_succ, List.set_cons_zero, List.set_cons_succ, List.length_cons, List.length_nil, Option.toList_some, Option.toList_none, List.cons_append, List.nil_append, Value.category, true_and, k_0, k_1, k_2, k_3, k_4, false_implies, true_implies, reduceCtorEq, hX.1, hP.1, h.1.2.2]
    refine pk_le nS k (fun z => by omega) (fun _ => ⟨by decide, ⟨_, rfl⟩, (c_isAt hP (nI l) nt (show k < 14 by omega)).mono ?_⟩)
    rintro r M' ⟨rfl, rfl⟩
    simp only [fi_const, fi_iload, fi_aload, fi_istore, fi_astore, fi_iinc, fi_bin, fi_div, fi_un, fi_dup, fi_dup2, fi_pop, fi_if, fi_cmp, fi_getf, fi_putf, fi_putr, fi_ald, fi_ast, fi_alen, fi_iret, fi_zret, fi_vret, fi_cut, fi_no, fi_s0, fi_s1, fi_s2, fi_s3, fi_s4, fi_v0, fi_v1, fi_v2, fi_v3, fi_v4, fi_v5, fi_n0, fi_n1, fi_n2, fi_mm, fi_stat, fi_alds, fi_tsw, List.getElem?_cons_zero, List.getElem?_cons_succ, List.set_cons_zero, List.set_cons_succ, List.length_cons, List.length_nil, Option.toList_some, Option.toList_none, List.cons_append, List.nil_append, Value.category, true_and, k_0, k_1, k_2, k_3, k_4, false_implies, true_implies, reduceCtorEq, bI_eq0, hX.1, hP.1, hP.2.2.2.2.2.2.2.2.2.2.1, nI_clamp (show k < 2 ^ 31 by omega), hik, nI_1, show 2 + 10 = 12 from rfl, show 2 + 6 = 8 from rfl, show 2 + 8 = 10 from rfl, h4.1, h5, h4.2.2.1]
    have m1 : ¬ (-1 : Int32) = nt := by rcases hnt with rfl | rfl <;> decide
    refine ⟨fun q => ?_, fun q => ⟨fun q2 => ?_, fun q2 => ?_⟩⟩
    · rw [suF, if_neg (by
        intro z
        by_cases w : v_dy V k = -1
        · rw [if_pos w] at z; simp [z.1, z.2] at q
        · rw [if_neg w] at z; exact m1 z.2)]
      exact l_waitingFor hX hT h l nt hnt n (k + 1) _ (by omega)
    · rw [suF, if_pos (by rw [if_pos q2]; simpa using q)]
      exact l_waitingFor hX hT h l nt hnt n (k + 1) _ (by omega)
    · rw [suF, if_neg (by rw [if_neg q2]; exact fun z => m1 z.2)]
      exact l_waitingFor hX hT h l nt hnt n (k + 1) _ (by omega)
theorem a_waitingFor (hX : shX S) (hT : okT V nL nA nS) {l : Nat} (hl : l < nL) {nt : Int32} (hnt : nt = 0 ∨ nt = 1) : askC g S fr τ V nL nA nS kp nb m_X8_waitingFor [.ref 0, .int (nI l), .int nt] (waV V nS l nt) := by
  intro σ h
  have hL := hT.2.2.2.1
  have hP := hX.2.2.1
  refine fs_enterC (by decide) (by simp [fs_ok]) (Nat.le_of_ble_eq_true rfl) (fun d => S_X8_waitingFor_0 ?_)
  show T_X8_waitingFor_0 g d _ [.ref 0, .int (nI l), .int nt, .null, .null] [] _
  simp only [T_X8_waitingFor_0, fi_const, fi_iload, fi_aload, fi_istore, fi_astore, fi_iinc, fi_bin, fi_div, fi_un, fi_dup, fi_dup2, fi_pop, fi_if, fi_cmp, fi_getf, fi_putf, fi_putr, fi_ald, fi_ast, fi_alen, fi_iret, fi_zret, fi_vret, fi_cut, fi_no, fi_s0, fi_s1, fi_s2, fi_s3, fi_s4, fi_v0, fi_v1, fi_v2, fi_v3, fi_v4, fi_v5, fi_n0, fi_n1, fi_n2, fi_mm, fi_stat, fi_alds, fi_tsw, List.getElem?_cons_zero, List.getElem?_cons_succ, List.set_cons_zero, List.set_cons_succ, List.length_cons, List.length_nil, Option.toList_some, Option.toList_none, List.cons_append, List.nil_append, Value.category, true_and, k_0, k_1, k_2, k_3, k_4, false_implies, true_implies, reduceCtorEq]
  simp only [hX.1, hP.1, fi_const, fi_iload, fi_aload, fi_istore, fi_astore, fi_iinc, fi_bin, fi_div, fi_un, fi_dup, fi_dup2, fi_pop, fi_if, fi_cmp, fi_getf, fi_putf, fi_putr, fi_ald, fi_ast, fi_alen, fi_iret, fi_zret, fi_vret, fi_cut, fi_no, fi_s0, fi_s1, fi_s2, fi_s3, fi_s4, fi_v0, fi_v1, fi_v2, fi_v3, fi_v4, fi_v5, fi_n0, fi_n1, fi_n2, fi_mm, fi_stat, fi_alds, fi_tsw, List.getElem?_cons_zero, List.getElem?_cons_succ, List.set_cons_zero, List.set_cons_succ, List.length_cons, List.length_nil, Option.toList_some, Option.toList_none, List.cons_append, List.nil_append, Value.category, true_and, k_0, k_1, k_2, k_3, k_4, false_implies, true_implies, reduceCtorEq, h.1.1]
  refine ⟨by decide, (c_requireIndex hl (by omega)).mono ?_⟩
  rintro r M' ⟨rfl, rfl⟩
  simp only [fi_const, fi_iload, fi_aload, fi_istore, fi_astore, fi_iinc, fi_bin, fi_div, fi_un, fi_dup, fi_dup2, fi_pop, fi_if, fi_cmp, fi_getf, fi_putf, fi_putr, fi_ald, fi_ast, fi_alen, fi_iret, fi_zret, fi_vret, fi_cut, fi_no, fi_s0, fi_s1, fi_s2, fi_s3, fi_s4, fi_v0, fi_v1, fi_v2, fi_v3, fi_v4, fi_v5, fi_n0, fi_n1, fi_n2, fi_mm, fi_stat, fi_alds, fi_tsw, List.getElem?_cons_zero, List.getElem?_cons_succ, List.set_cons_zero, List.set_cons_succ, List.length_cons, List.length_nil, Option.toList_some, Option.toList_none, List.cons_append, List.nil_append, Value.category, true_and, k_0, k_1, k_2, k_3, k_4, false_implies, true_implies, reduceCtorEq]
  refine fs_R_mono (l_waitingFor hX hT h l nt hnt nS 0 0 (by omega)) ?_
  rintro r M' ⟨rfl, rfl⟩
  exact ⟨rfl, σ, rfl, h, fun _ _ => rfl⟩
theorem c_isRain (x : Int32) {M : fs_M} : fs_Ct g m_X8_isRain [.int x] M (fun r M' => r = some (.int (bI (decide (raI x)))) ∧ M = M') := by
  refine fs_enterC (by decide) (by simp [fs_ok]) (Nat.le_of_ble_eq_true rfl) (fun d => S_X8_isRain_0 ?_)
  show T_X8_isRain_0 g d _ [.int x] [] _
  simp only [T_X8_isRain_0, fi_const, fi_iload, fi_aload, fi_istore, fi_astore, fi_iinc, fi_bin, fi_div, fi_un, fi_dup, fi_dup2, fi_pop, fi_if, fi_cmp, fi_getf, fi_putf, fi_putr, fi_ald, fi_ast, fi_alen, fi_iret, fi_zret, fi_vret, fi_cut, fi_no, fi_s0, fi_s1, fi_s2, fi_s3, fi_s4, fi_v0, fi_v1, fi_v2, fi_v3, fi_v4, fi_v5, fi_n0, fi_n1, fi_n2, fi_mm, fi_stat, fi_alds, fi_tsw, List.getElem?_cons_zero, List.getElem?_cons_succ, List.set_cons_zero, List.set_cons_succ, List.length_cons, List.length_nil, Option.toList_some, Option.toList_none, List.cons_append, List.nil_append, Value.category, true_and, k_0, k_1, k_2, k_3, k_4, false_implies, true_implies, reduceCtorEq]
  refine ⟨fun q => ?_, fun q => ⟨fun q2 => ?_, fun q2 => ?_⟩⟩
  · rw [decide_eq_false (fun z => z.1 q)]; simp [bI]
  · rw [decide_eq_false (fun z => z.2 q2)]; simp [bI]
  · rw [decide_eq_true (show raI x from ⟨q, q2⟩)]; simp [bI]
theorem IC.rn (h : IC σ V nL nA nS kp nb) (hT : okT V nL nA nS) (hN : okN V nS (V 4)) (rain : Int32) : rnT (σ 15) (σ 16) (σ 17) (σ 19) (σ 5) rain = rnV V nS rain := by
  have hn := hT.2.2.2.2.2.1
  have hL := hT.2.2.2.1
  have tb := h.tb hn
  unfold rnV rnT
  rw [spF_congr 12 (fun j hj => (tb j hj).1)]
  refine rn_congr (fun e he => ?_) 36 0 _ 0 0 _ (qq_d12 (spF_le _ 12))
  obtain ⟨t1, t2, t3, t4, t5⟩ := tb e he
  refine ⟨t1, t3, t5, ?_⟩
  unfold ouF
  rw [t1, t2]
  rcases pl_any hT (v_dy V) e with ⟨-, q⟩ | ⟨⟨l, hl, q⟩, -⟩
  · simp only [q]; simp
  · rw [q, nI_clamp (by omega), (h.2.1 l hl).2.2]; rfl
theorem v_shoot (hX : shX S) (hT : okT V nL nA nS) (hN : okN V nS (V 4)) (h : IC σ V nL nA nS kp nb) (rain : Int32) : fs_Ct g m_X5_shootAll [.ref 48, .int rain] ((S, fr), σ, τ) (fun x M' => x = none ∧ ∃ σ', M' = ((S, fr), σ', τ) ∧ IC σ' V nL nA nS kp nb ∧ (∀ a, 56 ≤ a → σ' a = σ a) ∧ σ' 48 0 = nI (rnV V nS rain).1 ∧ σ' 48 1 = (rnV V nS rain).2.1 ∧ ∀ j, j < (rnV V nS rain).1 → σ' 49 j = (rnV V nS rain).2.2 j) := by
  have hP := hX.2.2.1
  have hD := hX.2.2.2.1
  have hR := hX.2.2.2.2.2.2.2.1
  have hn := hT.2.2.2.2.2.1
  have h01 : b01 (v_ni V) nS := hT.2.2.2.2.2.2.2.1
  refine (c_shootAll hR hD hP (by decide) (by decide) rain (h.loc hT hN) (fun e he => ?_)).mono ?_
  · rw [show 14 + 3 = 17 from rfl, (h.tb hn e he).2.2.1]
    exact pnF01 h01
  · rw [show 14 + 1 = 15 from rfl, show 14 + 2 = 16 from rfl, show 14 + 3 = 17 from rfl, show 14 + 5 = 19 from rfl, show 2 + 3 = 5 from rfl, h.rn hT hN rain]
    rintro r M' ⟨rfl, σ', rfl, hs, s1, s2, s3⟩
    refine ⟨rfl, σ', rfl, h.keep (fun a _ _ _ => hs a ?_), fun a ha => hs a ?_, s1, s2, s3⟩
    · unfold inR; omega
    · unfold inR; omega
end PQ5
