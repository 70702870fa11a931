/-! ===== questions to the class: rain ===== -/
def rdV (V : Vt) (nS : Nat) (rain : Int32) : Int32 := if raI rain then nI (rnV V nS rain).1 else -2
def rlV (V : Vt) (nS : Nat) (rain : Int32) : Int32 := if raI rain then (rnV V nS rain).2.1 else -2
def rcV (V : Vt) (nS : Nat) (rain x : Int32) : Int32 := if raI rain ∧ ¬ x < 0 then (if nI (rnV V nS rain).1 ≤ x then -1 else (rnV V nS rain).2.2 x.toNatClampNeg) else -2
def wrF (f : Nat → Int32) : Nat → Nat → Int32 → Int32 → Int32
  | 0, _, w, _ => w
  | n + 1, e, w, l => if f e ≤ l then wrF f n (e + 1) w l else wrF f n (e + 1) (nI e) (f e)
def wrV (V : Vt) (nS : Nat) : Int32 := wrF (fun e => nI (rnV V nS (1 <<< (nI e &&& 31))).1) 12 0 0 (-1)
section PQ6
variable {g : fs_G} {d : Nat} {S : List fs_Sh} {fr : Bool} {σ : Nat → Nat → Int32} {τ : Nat → Nat → Int64} {V : Vt} {nL nA nS kp nb : Nat}
theorem a_rainDays (hX : shX S) (hT : okT V nL nA nS) (hN : okN V nS (V 4)) (x : Int32) : askC g S fr τ V nL nA nS kp nb m_X8_rainDays [.ref 0, .int x] (rdV V nS x) := by
  intro σ h
  have hR := hX.2.2.2.2.2.2.2.1
  refine fs_enterC (by decide) (by simp [fs_ok]) (Nat.le_of_ble_eq_true rfl) (fun d => S_X8_rainDays_0 ?_)
  show T_X8_rainDays_0 g d _ [.ref 0, .int x] [] _
  simp only [T_X8_rainDays_0, fi_const, fi_iload, fi_aload, fi_istore, fi_astore, fi_iinc, fi_bin, fi_div, fi_un, fi_dup, fi_dup2, fi_pop, fi_if, fi_cmp, fi_getf, fi_putf, fi_putr, fi_ald, fi_ast, fi_alen, fi_iret, fi_zret, fi_vret, fi_cut, fi_no, fi_s0, fi_s1, fi_s2, fi_s3, fi_s4, fi_v0, fi_v1, fi_v2, fi_v3, fi_v4, fi_v5, fi_n0, fi_n1, fi_n2, fi_mm, fi_stat, fi_alds, fi_tsw, List.getElem?_cons_zero, List.getElem?_cons_succ, List.set_cons_zero, List.set_cons_succ, List.length_cons, List.length_nil, Option.toList_some, Option.toList_none, List.cons_append, List.nil_append, Value.category, true_and, k_0, k_1, k_2, k_3, k_4, false_implies, true_implies, reduceCtorEq]
  refine ⟨by decide, (c_isRain x).mono ?_⟩
  rintro r M' ⟨rfl, rfl⟩
  simp only [fi_const, fi_iload, fi_aload, fi_istore, fi_astore, fi_iinc, fi_bin, fi_div, fi_un, fi_dup, fi_dup2, fi_pop, fi_if, fi_cmp, fi_getf, fi_putf, fi_putr, fi_ald, fi_ast, fi_alen, fi_iret, fi_zret, fi_vret, fi_cut, fi_no, fi_s0, fi_s1, fi_s2, fi_s3, fi_s4, fi_v0, fi_v1, fi_v2, fi_v3, fi_v4, fi_v5, fi_n0, fi_n1, fi_n2, fi_mm, fi_stat, fi_alds, fi_tsw, List.getElem?_cons_zero, List.getElem?_cons_succ, List.set_cons_zero, List.set_cons_succ, List.length_cons, List.length_nil, Option.toList_some, Option.toList_none, List.cons_append, List.nil_append, Value.category, true_and, k_0, k_1, k_2, k_3, k_4, false_implies, true_implies, reduceCtorEq, bI_eq0, decide_eq_false_iff_not, hX.1]
  unfold rdV
  refine ⟨fun q => ?_, fun q => ?_⟩
  · rw [if_neg q]; exact ⟨rfl, σ, rfl, h, fun _ _ => rfl⟩
  · rw [if_pos (Decidable.of_not_not q)]
    refine ⟨by decide, ⟨_, hR.1⟩, (v_shoot hX hT hN h x).mono ?_⟩
    rintro r M' ⟨rfl, σ', rfl, h', hs, s1, -⟩
    simp only [fi_const, fi_iload, fi_aload, fi_istore, fi_astore, fi_iinc, fi_bin, fi_div, fi_un, fi_dup, fi_dup2, fi_pop, fi_if, fi_cmp, fi_getf, fi_putf, fi_putr, fi_ald, fi_ast, fi_alen, fi_iret, fi_zret, fi_vret, fi_cut, fi_no, fi_s0, fi_s1, fi_s2, fi_s3, fi_s4, fi_v0, fi_v1, fi_v2, fi_v3, fi_v4, fi_v5, fi_n0, fi_n1, fi_n2, fi_mm, fi_stat, fi_alds, fi_tsw, List.getElem?_cons_zero, List.getElem?_cons_succ, List.set_cons_zero, List.set_cons_succ, List.length_cons, List.length_nil, Option.toList_some, Option.toList_none, List.cons_append, List.nil_append, Value.category, true_and, k_0, k_1, k_2, k_3, k_4, false_implies, true_implies, reduceCtorEq, hX.1, hR.1, s1]
    exact ⟨σ', rfl, h', hs⟩
theorem a_rainLost (hX : shX S) (hT : okT V nL nA nS) (hN : okN V nS (V 4)) (x : Int32) : askC g S fr τ V nL nA nS kp nb m_X8_rainLost [.ref 0, .int x] (rlV V nS x) := by
  intro σ h
  have hR := hX.2.2.2.2.2.2.2.1
  refine fs_enterC (by decide) (by simp [fs_ok]) (Nat.le_of_ble_eq_true rfl) (fun d => S_X8_rainLost_0 ?_)
  show T_X8_rainLost_0 g d _ [.ref 0, .int x] [] _
  simp only [T_X8_rainLost_0, fi_const, fi_iload, fi_aload, fi_istore, fi_astore, fi_iinc, fi_bin, fi_div, fi_un, fi_dup, fi_dup2, fi_pop, fi_if, fi_cmp, fi_getf, fi_putf, fi_putr, fi_ald, fi_ast, fi_alen, fi_iret, fi_zret, fi_vret, fi_cut, fi_no, fi_s0, fi_s1, fi_s2, fi_s3, fi_s4, fi_v0, fi_v1, fi_v2, fi_v3, fi_v4, fi_v5, fi_n0, fi_n1, fi_n2, fi_mm, fi_stat, fi_alds, fi_tsw, List.getElem?_cons_zero, List.getElem?_cons_succ, List.set_cons_zero, List.set_cons_succ, List.length_cons, List.length_nil, Option.toList_some, Option.toList_none, List.cons_append, List.nil_append, Value.category, true_and, k_0, k_1, k_2, k_3, k_4, false_implies, true_implies, reduceCtorEq]
  refine ⟨by decide, (c_isRain x).mono ?_⟩
  rintro r M' ⟨rfl, rfl⟩
  simp only [fi_const, fi_iload, fi_aload, fi_istore, fi_astore, fi_iinc, fi_bin, fi_div, fi_un, fi_dup, fi_dup2, fi_pop, fi_if, fi_cmp, fi_getf, fi_putf, fi_putr, fi_ald, fi_ast, fi_alen, fi_iret, fi_zret, fi_vret, fi_cut, fi_no, fi_s0, fi_s1, fi_s2, fi_s3, fi_s4, fi_v0, fi_v1, fi_v2, fi_v3, fi_v4, fi_v5, fi_n0, fi_n1, fi_n2, fi_mm, fi_stat, fi_alds, fi_tsw, List.getElem?_cons_zero, List.getElem?_cons_succ, List.set_cons_zero, List.set_cons_succ, List.length_cons, List.length_nil, Option.toList_some, Option.toList_none, List.cons_append, List.nil_append, Value.category, true_and, k_0, k_1, k_2, k_3, k_4, false_implies, true_implies, reduceCtorEq, bI_eq0, decide_eq_false_iff_not, hX.1]
  unfold rlV
  refine ⟨fun q => ?_, fun q => ?_⟩
  · rw [if_neg q]; exact ⟨rfl, σ, rfl, h, fun _ _ => rfl⟩
  · rw [if_pos (Decidable.of_not_not q)]
    refine ⟨by decide, ⟨_, hR.1⟩, (v_shoot hX hT hN h x).mono ?_⟩
    rintro r M' ⟨rfl, σ', rfl, h', hs, s1, s2, -⟩
    simp only [fi_const, fi_iload, fi_aload, fi_istore, fi_astore, fi_iinc, fi_bin, fi_div, fi_un, fi_dup, fi_dup2, fi_pop, fi_if, fi_cmp, fi_getf, fi_putf, fi_putr, fi_ald, fi_ast, fi_alen, fi_iret, fi_zret, fi_vret, fi_cut, fi_no, fi_s0, fi_s1, fi_s2, fi_s3, fi_s4, fi_v0, fi_v1, fi_v2, fi_v3, fi_v4, fi_v5, fi_n0, fi_n1, fi_n2, fi_mm, fi_stat, fi_alds, fi_tsw, List.getElem?_cons_zero, List.getElem?_cons_succ, List.set_cons_zero, List.set_cons_succ, List.length_cons, List.length_nil, Option.toList_some, Option.toList_none, List.cons_append, List.nil_append, Value.category, true_and, k_0, k_1, k_2, k_3, k_4, false_implies, true_implies, reduceCtorEq, hX.1, hR.1, s2]
    exact ⟨σ', rfl, h', hs⟩
theorem i0_le (x : Int32) : 0 ≤ x ↔ ¬ x < 0 := by
  rw [Int32.lt_iff_toInt_lt, Int32.le_iff_toInt_le]; omega
theorem rn_36 (V : Vt) (nS : Nat) (rain : Int32) : (rnV V nS rain).1 ≤ 36 := by
  have := (rn_le (sc := fun e => scF (v_dy V) e nS) (lo := plF (v_dy V) (v_lo V) nS) (ni := pnF (v_dy V) (v_ni V) nS) (cs := fun e => caF (v_dy V) (v_ca V) e nS) (inn := fr_ (V 2) 8) (rain := rain) 36 0 (qqF (spF (fun e => scF (v_dy V) e nS) 12)) 0 0 (fun _ => 0)).2
  simpa [rnV, rnT] using this
theorem cl_lt {x : Int32} {c : Nat} (h0 : ¬ x < 0) (h : ¬ nI c ≤ x) (hc : c < 2 ^ 31) : x.toNatClampNeg < c := by
  have e : (nI c).toInt = c := nI_toInt hc
  rw [Int32.lt_iff_toInt_lt] at h0
  rw [Int32.le_iff_toInt_le, e] at h
  have : ((0 : Int32)).toInt = 0 := rfl
  have e2 : x.toNatClampNeg = x.toInt.toNat := rfl
  omega
theorem a_rainDay (hX : shX S) (hT : okT V nL nA nS) (hN : okN V nS (V 4)) (x y : Int32) : askC g S fr τ V nL nA nS kp nb m_X8_rainDay [.ref 0, .int x, .int y] (rcV V nS x y) := by
  intro σ h
  have hR := hX.2.2.2.2.2.2.2.1
  refine fs_enterC (by decide) (by simp [fs_ok]) (Nat.le_of_ble_eq_true rfl) (fun d => S_X8_rainDay_0 ?_)
  show T_X8_rainDay_0 g d _ [.ref 0, .int x, .int y] [] _
  simp only [T_X8_rainDay_0, fi_const, fi_iload, fi_aload, fi_istore, fi_astore, fi_iinc, fi_bin, fi_div, fi_un, fi_dup, fi_dup2, fi_pop, fi_if, fi_cmp, fi_getf, fi_putf, fi_putr, fi_ald, fi_ast, fi_alen, fi_iret, fi_zret, fi_vret, fi_cut, fi_no, fi_s0, fi_s1, fi_s2, fi_s3, fi_s4, fi_v0, fi_v1, fi_v2, fi_v3, fi_v4, fi_v5, fi_n0, fi_n1, fi_n2, fi_mm, fi_stat, fi_alds, fi_tsw, List.getElem?_cons_zero, List.getElem?_cons_succ, List.set_cons_zero, List.set_cons_succ, List.length_cons, List.length_nil, Option.toList_some, Option.toList_none, List.cons_append, List.nil_append, Value.category, true_and, k_0, k_1, k_2, k_3, k_4, false_implies, true_implies, reduceCtorEq]
  refine ⟨by decide, (c_isRain x).mono ?_⟩
  rintro r M' ⟨rfl, rfl⟩
  simp only [fi_const, fi_iload, fi_aload, fi_istore, fi_astore, fi_iinc, fi_bin, fi_div, fi_un, fi_dup, fi_dup2, fi_pop, fi_if, fi_cmp, fi_getf, fi_putf, fi_putr, fi_ald, fi_ast, fi_alen, fi_iret, fi_zret, fi_vret, fi_cut, fi_no, fi_s0, fi_s1, fi_s2, fi_s3, fi_s4, fi_v0, fi_v1, fi_v2, fi_v3, fi_v4, fi_v5, fi_n0, fi_n1, fi_n2, fi_mm, fi_stat, fi_alds, fi_tsw, List.getElem?_cons_zero, List.getElem?_cons_succ, List.set_cons_zero, List.set_cons_succ, List.length_cons, List.length_nil, Option.toList_some, Option.toList_none, List.cons_append, List.nil_append, Value.category, true_and, k_0, k_1, k_2, k_3, k_4, false_implies, true_implies, reduceCtorEq, bI_eq0, decide_eq_false_iff_not, hX.1, i0_le]
  unfold rcV
  refine ⟨fun q => ?_, fun q => ⟨fun q2 => ?_, fun q2 => ?_⟩⟩
  · rw [if_neg (fun z => q z.1)]; exact ⟨rfl, σ, rfl, h, fun _ _ => rfl⟩
  · rw [if_pos ⟨Decidable.of_not_not q, q2⟩]
    refine ⟨by decide, ⟨_, hR.1⟩, (v_shoot hX hT hN h x).mono ?_⟩
    rintro r M' ⟨rfl, σ', rfl, h', hs, s1, s2, s3⟩
    simp only [fi_const, fi_iload, fi_aload, fi_istore, fi_astore, fi_iinc, fi_bin, fi_div, fi_un, fi_dup, fi_dup2, fi_pop, fi_if, fi_cmp, fi_getf, fi_putf, fi_putr, fi_ald, fi_ast, fi_alen, fi_iret, fi_zret, fi_vret, fi_cut, fi_no, fi_s0, fi_s1, fi_s2, fi_s3, fi_s4, fi_v0, fi_v1, fi_v2, fi_v3, fi_v4, fi_v5, fi_n0, fi_n1, fi_n2, fi_mm, fi_stat, fi_alds, fi_tsw, List.getElem?_cons_zero, List.getElem?_cons_succ, List.set_cons_zero, List.set_cons_succ, List.length_cons, List.length_nil, Option.toList_some, Option.toList_none, List.cons_append, List.nil_append, Value.category, true_and, k_0, k_1, k_2, k_3, k_4, false_implies, true_implies, reduceCtorEq, hX.1]
    refine ⟨by decide, ⟨_, hR.1⟩, (c_shotOn hR (rn_36 V nS x) s1 y).mono ?_⟩
    rintro r M' ⟨rfl, rfl⟩
    simp only [fi_const, fi_iload, fi_aload, fi_istore, fi_astore, fi_iinc, fi_bin, fi_div, fi_un, fi_dup, fi_dup2, fi_pop, fi_if, fi_cmp, fi_getf, fi_putf, fi_putr, fi_ald, fi_ast, fi_alen, fi_iret, fi_zret, fi_vret, fi_cut, fi_no, fi_s0, fi_s1, fi_s2, fi_s3, fi_s4, fi_v0, fi_v1, fi_v2, fi_v3, fi_v4, fi_v5, fi_n0, fi_n1, fi_n2, fi_mm, fi_stat, fi_alds, fi_tsw, List.getElem?_cons_zero, List.getElem?_cons_succ, List.set_cons_zero, List.set_cons_succ, List.length_cons, List.length_nil, Option.toList_some, Option.toList_none, List.cons_append, List.nil_append, Value.category, true_and, k_0, k_1, k_2, k_3, k_4, false_implies, true_implies, reduceCtorEq]
    refine ⟨?_, σ', rfl, h', hs⟩
    rw [if_neg q2]
    by_cases q3 : nI (rnV V nS x).1 ≤ y
    · rw [if_pos q3, if_pos q3]
    · rw [if_neg q3, if_neg q3, s3 _ (cl_lt q2 q3 (by have := rn_36 V nS x; omega))]
  · rw [if_neg (fun z => q2 z.2)]; exact ⟨rfl, σ, rfl, h, fun _ _ => rfl⟩
theorem l_worstRain (hX : shX S) (hT : okT V nL nA nS) (hN : okN V nS (V 4)) : ∀ n e w l σ, e + n = 12 → IC σ V nL nA nS kp nb → fs_R g m_X8_worstRain d (0, 0) 6 [.ref 0, .int w, .int l, .int (nI e)] [] ((S, fr), σ, τ) (fun r M' => r = some (.int (wrF (fun e => nI (rnV V nS (1 <<< (nI e &&& 31))).1) n e w l)) ∧ ∃ σ', M' = ((S, fr), σ', τ) ∧ IC σ' V nL nA nS kp nb ∧ ∀ a, 56 ≤ a → σ' a = σ a)
  | 0, e, w, l, σ, he, h => by
    refine S_X8_worstRain_6 ?_
    simp only [T_X8_worstRain_6, fi_const, fi_iload, fi_aload, fi_istore, fi_astore, fi_iinc, fi_bin, fi_div, fi_un, fi_dup, fi_dup2, fi_pop, fi_if, fi_cmp, fi_getf, fi_putf, fi_putr, fi_ald, fi_ast, fi_alen, fi_iret, fi_zret, fi_vret, fi_cut, fi_no, fi_s0, fi_s1, fi_s2, fi_s3, fi_s4, fi_v0, fi_v1, fi_v2, fi_v3, fi_v4, fi_v5, fi_n0, fi_n1, fi_n2, fi_mm, fi_stat, fi_alds, fi_tsw, List.getElem?_cons_zero, List.getElem?_cons_succ, List.set_cons_zero, List.set_cons_succ, List.length_cons, List.length_nil, Option.toList_some, Option.toList_none, List.cons_append, List.nil_append, Value.category, true_and, k_0, k_1, k_2, k_3, k_4, false_implies, true_implies, reduceCtorEq]
    refine pk_le 12 e (fun _ => ?_) (fun z => by omega)
    exact ⟨rfl, σ, rfl, h, fun _ _ => rfl⟩
  | n + 1, e, w, l, σ, he, h => by
    have hR := hX.2.2.2.2.2.2.2.1
    refine S_X8_worstRain_6 ?_
    simp only [T_X8_worstRain_6, fi_const, fi_iload, fi_aload, fi_istore, fi_astore, fi_iinc, fi_bin, fi_div, fi_un, fi_dup, fi_dup2, fi_pop, fi_if, fi_cmp, fi_getf, fi_putf, fi_putr, fi_ald, fi_ast, fi_alen, fi_iret, fi_zret, fi_vret, fi_cut, fi_no, fi_s0, fi_s1, fi_s2, fi_s3, fi_s4, fi_v0, fi_v1, fi_v2, fi_v3, fi_v4, fi_v5, fi_n0, fi_n1, fi_n2, fi_mm, fi_stat, fi_alds, fi_tsw, List.getElem?_cons_zero, List.getElem?_cons_succ, List.set_cons_zero, List.set_cons_succ, List.length_cons, List.length_nil, Option.toList_some, Option.toList_none, List.cons_append, List.nil_append, Value.category, true_and, k_0, k_1, k_2, k_3, k_4, false_implies, true_implies, reduceCtorEq, hX.1]
    refine pk_le 12 e (fun z => by omega) (fun _ => ⟨by decide, ⟨_, hR.1⟩, (v_shoot hX hT hN h _).mono ?_⟩)
    rintro r M' ⟨rfl, σ', rfl, h', hs, s1, -⟩
    simp only [fi_const, fi_iload, fi_aload, fi_istore, fi_astore, fi_iinc, fi_bin, fi_div, fi_un, fi_dup, fi_dup2, fi_pop, fi_if, fi_cmp, fi_getf, fi_putf, fi_putr, fi_ald, fi_ast, fi_alen, fi_iret, fi_zret, fi_vret, fi_cut, fi_no, fi_s0, fi_s1, fi_s2, fi_s3, fi_s4, fi_v0, fi_v1, fi_v2, fi_v3, fi_v4, fi_v5, fi_n0, fi_n1, fi_n2, fi_mm, fi_stat, fi_alds, fi_tsw, List.getElem?_cons_zero, List.getElem?_cons_succ, List.set_cons_zero, List.set_cons_succ, List.length_cons, List.length_nil, Option.toList_some, Option.toList_none, List.cons_append, List.nil_append, Value.category, true_and, k_0, k_1, k_2, k_3, k_4, false_implies, true_implies, reduceCtorEq, nI_1, hX.1, hR.1, s1]
    refine ⟨fun q => ?_, fun q => ?_⟩
    · refine fs_R_mono (l_worstRain hX hT hN n (e + 1) _ _ σ' (by omega) h') ?_
      rintro r M' ⟨rfl, σ2, rfl, h2, hs2⟩
      exact ⟨by rw [wrF, if_pos q], σ2, rfl, h2, fun a ha => (hs2 a ha).trans (hs a ha)⟩
    · refine fs_R_mono (l_worstRain hX hT hN n (e + 1) _ _ σ' (by omega) h') ?_
      rintro r M' ⟨rfl, σ2, rfl, h2, hs2⟩
      exact ⟨by rw [wrF, if_neg q], σ2, rfl, h2, fun a ha => (hs2 a ha).trans (hs a ha)⟩
theorem a_worstRain (hX : shX S) (hT : okT V nL nA nS) (hN : okN V nS (V 4)) : askC g S fr τ V nL nA nS kp nb m_X8_worstRain [.ref 0] (wrV V nS) := by
  intro σ h
  refine fs_enterC (by decide) (by simp [fs_ok]) (Nat.le_of_ble_eq_true rfl) (fun d => S_X8_worstRain_0 ?_)
  show T_X8_worstRain_0 g d _ [.ref 0, .null, .null, .null] [] _
  simp only [T_X8_worstRain_0, fi_const, fi_iload, fi_aload, fi_istore, fi_astore, fi_iinc, fi_bin, fi_div, fi_un, fi_dup, fi_dup2, fi_pop, fi_if, fi_cmp, fi_getf, fi_putf, fi_putr, fi_ald, fi_ast, fi_alen, fi_iret, fi_zret, fi_vret, fi_cut, fi_no, fi_s0, fi_s1, fi_s2, fi_s3, fi_s4, fi_v0, fi_v1, fi_v2, fi_v3, fi_v4, fi_v5, fi_n0, fi_n1, fi_n2, fi_mm, fi_stat, fi_alds, fi_tsw, List.getElem?_cons_zero, List.getElem?_cons_succ, List.set_cons_zero, List.set_cons_succ, List.length_cons, List.length_nil, Option.toList_some, Option.toList_none, List.cons_append, List.nil_append, Value.category, true_and, k_0, k_1, k_2, k_3, k_4, false_implies, true_implies, reduceCtorEq]
  exact l_worstRain hX hT hN 12 0 0 (-1) σ rfl h
end PQ6
