/-! ===== the reference: reasons ===== -/
def rmF (lo ni le ca : Nat → Int32) (cap : Int32) (dy : Nat → Int32) (n k e : Nat) : Int32 :=
  if ¬ anF (dyA dy k (-1)) e n 0 = none ∧ ¬ plF (dyA dy k (-1)) lo n e = lo k then 1
  else if ¬ anF (dyA dy k (-1)) e n 0 = none ∧ ¬ pnF (dyA dy k (-1)) ni n e = ni k then 2
  else if ¬ leF (dyA dy k (-1)) le e n + le k ≤ cap then 3
  else if rsM (pnF (dyA dy k (nI e)) ni n) (fun f => caF (dyA dy k (nI e)) ca f n) 11 0 then 0 else 4
theorem fr_u {σ : Nat → Nat → Int32} {a k o : Nat} {x : Int32} : fr_ (fs_u σ a (o + k) x a) o = dyA (fr_ (σ a) o) k x := by
  funext j
  simp only [fr_, dyA, fs_u]
  by_cases h : j = k
  · subst h; simp
  · simp [h, show ¬ o + j = o + k by omega]
theorem u_back {σ : Nat → Nat → Int32} {a j : Nat} {x : Int32} : fs_u (fs_u σ a j x) a j (σ a j) = σ := by
  funext b c
  simp only [fs_u]
  by_cases h : b = a ∧ c = j
  · rw [if_pos h, h.1, h.2]
  · rw [if_neg h, if_neg h]
theorem u_twice {σ : Nat → Nat → Int32} {a j : Nat} {x y : Int32} : fs_u (fs_u σ a j x) a j y = fs_u σ a j y := by
  funext b c
  simp only [fs_u]
  by_cases h : b = a ∧ c = j
  · rw [if_pos h, if_pos h]
  · rw [if_neg h, if_neg h, if_neg h]
section PM2
variable {g : fs_G} {d : Nat} {S : List fs_Sh} {fr : Bool} {σ : Nat → Nat → Int32} {τ : Nat → Nat → Int64} {m : Nat}
theorem c_reason (hM : shM S m) {nS : Nat} (hnS : nS ≤ 14) (hc : σ (m + 2) 82 = nI nS) {k e : Nat} (hk : k < 14) : fs_Ct g m_X9_reason [.ref m, .int (nI k), .int (nI e)] ((S, fr), σ, τ) (fun r M' => r = some (.int (rmF (fr_ (σ (m + 2)) 24) (fr_ (σ (m + 2)) 52) (fr_ (σ (m + 2)) 38) (fr_ (σ (m + 2)) 66) (σ (m + 4) 0) (fr_ (σ (m + 4)) 4) nS k e)) ∧ ((S, fr), σ, τ) = M') := by
  have hi18 : vp_in (nI (4 + k)) 18 := vp_in_nI (by omega) (by decide)
  have hcl : (nI (4 + k)).toNatClampNeg = 4 + k := nI_clamp (by omega)
  have c151 : ∀ d (j4 : Value) (why x : Int32), fs_R g m_X9_reason d (0, 0) 151 [.ref m, .int (nI k), .int (nI e), .int (σ (m + 4) (4 + k)), j4, .int why] [] ((S, fr), fs_u σ (m + 4) (4 + k) x, τ) (fun r M' => r = some (.int why) ∧ ((S, fr), σ, τ) = M') := by
    intro d j4 why x
    refine S_X9_reason_151 ?_
    simp only [T_X9_reason_151, fi_const, fi_iload, fi_aload, fi_istore, fi_astore, fi_iinc, fi_bin, fi_div, fi_un, fi_dup, fi_dup2, fi_pop, fi_if, fi_cmp, fi_getf, fi_putf, fi_putr, fi_ald, fi_ast, fi_alen, fi_iret, fi_zret, fi_vret, fi_cut, fi_no, fi_s0, fi_s1, fi_s2, fi_s3, fi_s4, fi_v0, fi_v1, fi_v2, fi_v3, fi_v4, fi_v5, fi_n0, fi_n1, fi_n2, fi_mm, fi_stat, fi_alds, fi_tsw, List.getElem?_cons_zero, List.getElem?_cons_succ, List.set_cons_zero, List.set_cons_succ, List.length_cons, List.length_nil, Option.toList_some, Option.toList_none, List.cons_append, List.nil_append, Value.category, true_and, k_0, k_1, k_2, k_3, k_4, false_implies, true_implies, reduceCtorEq, hM.1, hM.2.2.2.2.1, li_4, hcl, nar_int, u_back]
    exact ⟨hi18, trivial⟩
  have q2 : ∀ x, fs_u σ (m + 4) (4 + k) x (m + 2) = σ (m + 2) := fun x => fs_u_ne (by omega)
  have c123 : ∀ d (j4 : Value) (why : Int32), fs_R g m_X9_reason d (0, 0) 123 [.ref m, .int (nI k), .int (nI e), .int (σ (m + 4) (4 + k)), j4, .int why] [] ((S, fr), fs_u σ (m + 4) (4 + k) (-1), τ) (fun r M' => r = some (.int (if ¬ why = 0 then why else if rsM (pnF (dyA (fr_ (σ (m + 4)) 4) k (nI e)) (fr_ (σ (m + 2)) 52) nS) (fun f => caF (dyA (fr_ (σ (m + 4)) 4) k (nI e)) (fr_ (σ (m + 2)) 66) f nS) 11 0 then 0 else 4)) ∧ ((S, fr), σ, τ) = M') := by
    intro d j4 why
    refine S_X9_reason_123 ?_
    simp only [T_X9_reason_123, fi_const, fi_iload, fi_aload, fi_istore, fi_astore, fi_iinc, fi_bin, fi_div, fi_un, fi_dup, fi_dup2, fi_pop, fi_if, fi_cmp, fi_getf, fi_putf, fi_putr, fi_ald, fi_ast, fi_alen, fi_iret, fi_zret, fi_vret, fi_cut, fi_no, fi_s0, fi_s1, fi_s2, fi_s3, fi_s4, fi_v0, fi_v1, fi_v2, fi_v3, fi_v4, fi_v5, fi_n0, fi_n1, fi_n2, fi_mm, fi_stat, fi_alds, fi_tsw, List.getElem?_cons_zero, List.getElem?_cons_succ, List.set_cons_zero, List.set_cons_succ, List.length_cons, List.length_nil, Option.toList_some, Option.toList_none, List.cons_append, List.nil_append, Value.category, true_and, k_0, k_1, k_2, k_3, k_4, false_implies, true_implies, reduceCtorEq, hM.1, hM.2.2.2.2.1, li_4, hcl, nar_int, u_twice]
    refine ⟨fun q => ⟨hi18, by decide, ⟨_, rfl⟩, (c_isRested hM hnS (by rw [q2]; exact hc)).mono ?_⟩, fun q => ?_⟩
    · rintro r M' ⟨rfl, rfl⟩
      simp only [fi_const, fi_iload, fi_aload, fi_istore, fi_astore, fi_iinc, fi_bin, fi_div, fi_un, fi_dup, fi_dup2, fi_pop, fi_if, fi_cmp, fi_getf, fi_putf, fi_putr, fi_ald, fi_ast, fi_alen, fi_iret, fi_zret, fi_vret, fi_cut, fi_no, fi_s0, fi_s1, fi_s2, fi_s3, fi_s4, fi_v0, fi_v1, fi_v2, fi_v3, fi_v4, fi_v5, fi_n0, fi_n1, fi_n2, fi_mm, fi_stat, fi_alds, fi_tsw, List.getElem?_cons_zero, List.getElem?_cons_succ, List.set_cons_zero, List.set_cons_succ, List.length_cons, List.length_nil, Option.toList_some, Option.toList_none, List.cons_append, List.nil_append, Value.category, true_and, k_0, k_1, k_2, k_3, k_4, false_implies, true_implies, reduceCtorEq, q2, fr_u, bI_eq0]
      rw [if_neg (by simp [q])]
      refine ⟨fun w => ?_, fun w => ?_⟩
      · rw [if_neg (by simp [w])]; exact c151 d j4 4 _
      · rw [if_pos (by simpa using w)]; exact c151 d j4 0 _
    · rw [if_pos q]; exact c151 d j4 why _
  have hik : vp_in (nI (24 + k)) 83 := vp_in_nI (by omega) (by decide)
  have hik2 : vp_in (nI (52 + k)) 83 := vp_in_nI (by omega) (by decide)
  have hik3 : vp_in (nI (38 + k)) 83 := vp_in_nI (by omega) (by decide)
  have h40 : fs_u σ (m + 4) (4 + k) (-1) (m + 4) 0 = σ (m + 4) 0 := by simp [fs_u]; omega
  have c96 : ∀ d (j4 : Value), fs_R g m_X9_reason d (0, 0) 96 [.ref m, .int (nI k), .int (nI e), .int (σ (m + 4) (4 + k)), j4, .int 0] [] ((S, fr), fs_u σ (m + 4) (4 + k) (-1), τ) (fun r M' => r = some (.int (if ¬ leF (dyA (fr_ (σ (m + 4)) 4) k (-1)) (fr_ (σ (m + 2)) 38) e nS + fr_ (σ (m + 2)) 38 k ≤ σ (m + 4) 0 then 3 else if rsM (pnF (dyA (fr_ (σ (m + 4)) 4) k (nI e)) (fr_ (σ (m + 2)) 52) nS) (fun f => caF (dyA (fr_ (σ (m + 4)) 4) k (nI e)) (fr_ (σ (m + 2)) 66) f nS) 11 0 then 0 else 4)) ∧ ((S, fr), σ, τ) = M') := by
    intro d j4
    refine S_X9_reason_96 ?_
    simp only [T_X9_reason_96, fi_const, fi_iload, fi_aload, fi_istore, fi_astore, fi_iinc, fi_bin, fi_div, fi_un, fi_dup, fi_dup2, fi_pop, fi_if, fi_cmp, fi_getf, fi_putf, fi_putr, fi_ald, fi_ast, fi_alen, fi_iret, fi_zret, fi_vret, fi_cut, fi_no, fi_s0, fi_s1, fi_s2, fi_s3, fi_s4, fi_v0, fi_v1, fi_v2, fi_v3, fi_v4, fi_v5, fi_n0, fi_n1, fi_n2, fi_mm, fi_stat, fi_alds, fi_tsw, List.getElem?_cons_zero, List.getElem?_cons_succ, List.set_cons_zero, List.set_cons_succ, List.length_cons, List.length_nil, Option.toList_some, Option.toList_none, List.cons_append, List.nil_append, Value.category, true_and, k_0, k_1, k_2, k_3, k_4, false_implies, true_implies, reduceCtorEq, hM.1]
    refine ⟨by decide, ⟨_, rfl⟩, (c_lengthOf hM hnS (by rw [q2]; exact hc) e).mono ?_⟩
    rintro r M' ⟨rfl, rfl⟩
    simp only [fi_const, fi_iload, fi_aload, fi_istore, fi_astore, fi_iinc, fi_bin, fi_div, fi_un, fi_dup, fi_dup2, fi_pop, fi_if, fi_cmp, fi_getf, fi_putf, fi_putr, fi_ald, fi_ast, fi_alen, fi_iret, fi_zret, fi_vret, fi_cut, fi_no, fi_s0, fi_s1, fi_s2, fi_s3, fi_s4, fi_v0, fi_v1, fi_v2, fi_v3, fi_v4, fi_v5, fi_n0, fi_n1, fi_n2, fi_mm, fi_stat, fi_alds, fi_tsw, List.getElem?_cons_zero, List.getElem?_cons_succ, List.set_cons_zero, List.set_cons_succ, List.length_cons, List.length_nil, Option.toList_some, Option.toList_none, List.cons_append, List.nil_append, Value.category, true_and, k_0, k_1, k_2, k_3, k_4, false_implies, true_implies, reduceCtorEq, hM.1, hM.2.2.1, hM.2.2.2.2.1, li_38, q2, fr_u, nI_clamp (show 38 + k < 2 ^ 31 by omega), h40]
    refine ⟨hik3, pk_in 0 18 (by decide), fun q => ?_, fun q => ?_⟩
    · have h := c123 d j4 0
      rw [if_neg (by simp)] at h
      rw [if_neg (fun z => z q)]
      exact h
    · have h := c123 d j4 3
      rw [if_pos (by decide)] at h
      rw [if_pos (show ¬ leF (dyA (fr_ (σ (m + 4)) 4) k (-1)) (fr_ (σ (m + 2)) 38) e nS + fr_ (σ (m + 2)) 38 k ≤ σ (m + 4) 0 from q)]
      exact h
  have c62 : ∀ d (be : Option Nat), anF (dyA (fr_ (σ (m + 4)) 4) k (-1)) e nS 0 = be → fs_R g m_X9_reason d (0, 0) 62 [.ref m, .int (nI k), .int (nI e), .int (σ (m + 4) (4 + k)), .int (oI be), .int 0] [] ((S, fr), fs_u σ (m + 4) (4 + k) (-1), τ) (fun r M' => r = some (.int (if ¬ anF (dyA (fr_ (σ (m + 4)) 4) k (-1)) e nS 0 = none ∧ ¬ pnF (dyA (fr_ (σ (m + 4)) 4) k (-1)) (fr_ (σ (m + 2)) 52) nS e = fr_ (σ (m + 2)) 52 k then 2 else if ¬ leF (dyA (fr_ (σ (m + 4)) 4) k (-1)) (fr_ (σ (m + 2)) 38) e nS + fr_ (σ (m + 2)) 38 k ≤ σ (m + 4) 0 then 3 else if rsM (pnF (dyA (fr_ (σ (m + 4)) 4) k (nI e)) (fr_ (σ (m + 2)) 52) nS) (fun f => caF (dyA (fr_ (σ (m + 4)) 4) k (nI e)) (fr_ (σ (m + 2)) 66) f nS) 11 0 then 0 else 4)) ∧ ((S, fr), σ, τ) = M') := by
    intro d be hbe
    have hb : ∀ b, be = some b → b < 14 := fun b q => by have := (anF_some (hbe.trans q)).1; omega
    refine S_X9_reason_62 ?_
    simp only [T_X9_reason_62, fi_const, fi_iload, fi_aload, fi_istore, fi_astore, fi_iinc, fi_bin, fi_div, fi_un, fi_dup, fi_dup2, fi_pop, fi_if, fi_cmp, fi_getf, fi_putf, fi_putr, fi_ald, fi_ast, fi_alen, fi_iret, fi_zret, fi_vret, fi_cut, fi_no, fi_s0, fi_s1, fi_s2, fi_s3, fi_s4, fi_v0, fi_v1, fi_v2, fi_v3, fi_v4, fi_v5, fi_n0, fi_n1, fi_n2, fi_mm, fi_stat, fi_alds, fi_tsw, List.getElem?_cons_zero, List.getElem?_cons_succ, List.set_cons_zero, List.set_cons_succ, List.length_cons, List.length_nil, Option.toList_some, Option.toList_none, List.cons_append, List.nil_append, Value.category, true_and, k_0, k_1, k_2, k_3, k_4, false_implies, true_implies, reduceCtorEq, oI_m14 hb, hM.1, hM.2.2.1, q2, li_52, nI_clamp (show 52 + k < 2 ^ 31 by omega)]
    refine ⟨fun q => ?_, fun q => ?_⟩
    · rw [if_neg (by simp [hbe, q])]; exact c96 d _
    · obtain ⟨b, rfl⟩ := Option.ne_none_iff_exists'.mp q
      have h14 := hb b rfl
      simp only [oI, li_52, nI_clamp (show 52 + b < 2 ^ 31 by omega)]
      have hp : pnF (dyA (fr_ (σ (m + 4)) 4) k (-1)) (fr_ (σ (m + 2)) 52) nS e = σ (m + 2) (52 + b) := by simp [pnF, hbe, fr_]
      refine ⟨vp_in_nI (by omega) (by decide), hik2, fun w => ?_, fun w => ?_⟩
      · rw [if_neg (by rw [hp]; simp [fr_, w])]; exact c96 d _
      · have h := c123 d (.int (nI b)) 2
        rw [if_pos (by decide)] at h
        rw [if_pos ⟨by simp [hbe], by rw [hp]; exact w⟩]
        exact h
  refine fs_enterC (by decide) (by simp [fs_ok]) (Nat.le_of_ble_eq_true rfl) (fun d => S_X9_reason_0 ?_)
  show T_X9_reason_0 g d _ [.ref m, .int (nI k), .int (nI e), .null, .null, .null] [] _
  simp only [T_X9_reason_0, fi_const, fi_iload, fi_aload, fi_istore, fi_astore, fi_iinc, fi_bin, fi_div, fi_un, fi_dup, fi_dup2, fi_pop, fi_if, fi_cmp, fi_getf, fi_putf, fi_putr, fi_ald, fi_ast, fi_alen, fi_iret, fi_zret, fi_vret, fi_cut, fi_no, fi_s0, fi_s1, fi_s2, fi_s3, fi_s4, fi_v0, fi_v1, fi_v2, fi_v3, fi_v4, fi_v5, fi_n0, fi_n1, fi_n2, fi_mm, fi_stat, fi_alds, fi_tsw, List.getElem?_cons_zero, List.getElem?_cons_succ, List.set_cons_zero, List.set_cons_succ, List.length_cons, List.length_nil, Option.toList_some, Option.toList_none, List.cons_append, List.nil_append, Value.category, true_and, k_0, k_1, k_2, k_3, k_4, false_implies, true_implies, reduceCtorEq]
  simp only [hM.1, hM.2.2.2.2.1, fi_const, fi_iload, fi_aload, fi_istore, fi_astore, fi_iinc, fi_bin, fi_div, fi_un, fi_dup, fi_dup2, fi_pop, fi_if, fi_cmp, fi_getf, fi_putf, fi_putr, fi_ald, fi_ast, fi_alen, fi_iret, fi_zret, fi_vret, fi_cut, fi_no, fi_s0, fi_s1, fi_s2, fi_s3, fi_s4, fi_v0, fi_v1, fi_v2, fi_v3, fi_v4, fi_v5, fi_n0, fi_n1, fi_n2, fi_mm, fi_stat, fi_alds, fi_tsw, List.getElem?_cons_zero, List.getElem?_cons_succ, List.set_cons_zero, List.set_cons_succ, List.length_cons, List.length_nil, Option.toList_some, Option.toList_none, List.cons_append, List.nil_append, Value.category, true_and, k_0, k_1, k_2, k_3, k_4, false_implies, true_implies, reduceCtorEq, li_4, hcl, nar_int]
  refine ⟨hi18, hi18, by decide, ⟨_, rfl⟩, (c_anyOf hM hnS (by rw [q2]; exact hc) e).mono ?_⟩
  rintro r M' ⟨rfl, rfl⟩
  rw [fr_u]
  unfold rmF
  generalize hbe : anF (dyA (fr_ (σ (m + 4)) 4) k (-1)) e nS 0 = be
  have hb : ∀ b, be = some b → b < 14 := fun b q => by have := (anF_some (hbe.trans q)).1; omega
  simp only [fi_const, fi_iload, fi_aload, fi_istore, fi_astore, fi_iinc, fi_bin, fi_div, fi_un, fi_dup, fi_dup2, fi_pop, fi_if, fi_cmp, fi_getf, fi_putf, fi_putr, fi_ald, fi_ast, fi_alen, fi_iret, fi_zret, fi_vret, fi_cut, fi_no, fi_s0, fi_s1, fi_s2, fi_s3, fi_s4, fi_v0, fi_v1, fi_v2, fi_v3, fi_v4, fi_v5, fi_n0, fi_n1, fi_n2, fi_mm, fi_stat, fi_alds, fi_tsw, List.getElem?_cons_zero, List.getElem?_cons_succ, List.set_cons_zero, List.set_cons_succ, List.length_cons, List.length_nil, Option.toList_some, Option.toList_none, List.cons_append, List.nil_append, Value.category, true_and, k_0, k_1, k_2, k_3, k_4, false_implies, true_implies, reduceCtorEq, oI_m14 hb, hM.1, hM.2.2.1, q2, li_24, nI_clamp (show 24 + k < 2 ^ 31 by omega)]
  refine ⟨fun q => ?_, fun q => ?_⟩
  · rw [if_neg (by simp [q])]
    have h := c62 d be hbe
    rw [hbe] at h
    exact h
  · obtain ⟨b, rfl⟩ := Option.ne_none_iff_exists'.mp q
    have h14 := hb b rfl
    simp only [oI, li_24, nI_clamp (show 24 + b < 2 ^ 31 by omega)]
    have hp : plF (dyA (fr_ (σ (m + 4)) 4) k (-1)) (fr_ (σ (m + 2)) 24) nS e = σ (m + 2) (24 + b) := by simp [plF, hbe, fr_]
    refine ⟨vp_in_nI (by omega) (by decide), hik, fun w => ?_, fun w => ?_⟩
    · rw [if_neg (by rw [hp]; simp [fr_, w])]
      have h := c62 d (some b) hbe
      rw [hbe] at h
      exact h
    · have h := c123 d (.int (nI b)) 1
      rw [if_pos (by decide)] at h
      rw [if_pos ⟨by simp, by rw [hp]; exact w⟩]
      exact h
end PM2
