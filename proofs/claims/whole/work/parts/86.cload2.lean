/-! ===== load of the class ===== -/
/-- V after a load that went well, that failed -/
def ldV (V : Vt) (T N : Nat → Int32) : Vt := fun a c => if a = 2 then T c else if a = 4 then N c else if a = 0 ∧ c = 2 then 0 else if a = 0 ∧ c = 9 then 0 else if a = 0 ∧ c = 18 then -1 else V a c
def leV (V : Vt) (p : Nat) : Vt := fun a c => if a = 0 ∧ c = 2 then 0 else if a = 0 ∧ c = 18 then nI p else V a c
theorem ldV_2 (V : Vt) (T N : Nat → Int32) : ldV V T N 2 = T := by funext c; simp [ldV]
theorem ldV_4 (V : Vt) (T N : Nat → Int32) : ldV V T N 4 = N := by funext c; simp [ldV]
theorem leV_ne (V : Vt) (p : Nat) {a : Nat} (h : a ≠ 0) : leV V p a = V a := by funext c; simp [leV, h]
def bN (V : Vt) (i : Nat) : Nat := (V 1 i).toNatClampNeg
def erC (e : Er) : Prop := e.1 = -11 ∨ e.1 = -12 ∨ e.1 = -13 ∨ e.1 = -14 ∨ e.1 = -15 ∨ e.1 = -16 ∨ e.1 = -17
section PE1
variable {b : Nat → Nat} {L k : Nat} {Z : Zt} {e : Er}
theorem eNew_er {T : Nat → Int32} {nL nA : Nat} (h : eNew b L k T nL nA = some e) : erC e := by
  unfold eNew at h; unfold erC
  split at h
  · split at h
    · cases h
    · cases h; simp
  · cases h; simp
theorem eInt_er {lo hi : Nat} (h : eInt b L lo hi k = some e) : erC e := by
  unfold eInt at h; unfold erC
  split at h
  · split at h
    · cases h; simp
    · cases h
  · cases h; simp
theorem eLoc_er {T : Nat → Int32} {nL : Nat} (h : eLoc b L k T nL = some e) : erC e := by
  unfold eLoc at h; unfold erC
  split at h
  · split at h
    · cases h; simp
    · cases h
  · cases h; simp
theorem eScn_er {T N : Nat → Int32} {nS d : Nat} (h : eScn b L T nS d k N = some e) : erC e := by
  unfold eScn at h; unfold erC
  split at h
  · split at h
    · cases h; simp
    · split at h
      · split at h
        · cases h
        · cases h; simp
      · cases h; simp
  · cases h; simp
theorem pCast_er {T : Nat → Int32} {nA : Nat} : ∀ n k c, pCast b L T nA n k c = .inl e → erC e
  | 0, k, c, h => by simp only [pCast] at h; cases h
  | n + 1, k, c, h => by
    simp only [pCast] at h
    split at h
    · cases h
    · split at h
      · split at h
        · cases h; unfold erC; simp
        · split at h
          · cases h; unfold erC; simp
          · exact pCast_er n _ _ h
      · cases h; unfold erC; simp
theorem pDays_er {T : Nat → Int32} {nS d : Nat} : ∀ n k N, pDays b L T nS d n k N = .inl e → erC e
  | 0, k, N, h => by simp only [pDays] at h; cases h
  | n + 1, k, N, h => by
    simp only [pDays] at h
    split at h
    · rename_i w; cases h; exact eScn_er w
    · split at h
      · cases h
      · exact pDays_er n _ _ h
theorem s_er : (sLoc b L k Z = .inl e → erC e) ∧ (sAct b L k Z = .inl e → erC e) ∧ (sScn b L k Z = .inl e → erC e) ∧ (sSet b L k Z = .inl e → erC e) ∧ (sDay b L k Z = .inl e → erC e) := by
  refine ⟨fun h => ?_, fun h => ?_, fun h => ?_, fun h => ?_, fun h => ?_⟩
  · unfold sLoc at h
    split at h
    · cases h; unfold erC; simp
    · split at h
      · rename_i w; cases h; exact eNew_er w
      · split at h
        · rename_i w; cases h; exact eInt_er w
        · split at h
          · cases h
          · cases h; unfold erC; simp
  · unfold sAct at h
    split at h
    · cases h; unfold erC; simp
    · split at h
      · rename_i w; cases h; exact eNew_er w
      · split at h
        · rename_i w; cases h; exact eInt_er w
        · cases h
  · unfold sScn at h
    split at h
    · cases h; unfold erC; simp
    · split at h
      · rename_i w; cases h; exact eLoc_er w
      · split at h
        · rename_i w; cases h; exact eInt_er w
        · split at h
          · rename_i w; cases h; exact pCast_er _ _ _ w
          · cases h
  · unfold sSet at h
    split at h
    · cases h; unfold erC; simp
    · split at h
      · cases h; unfold erC; simp
      · split at h
        · cases h; unfold erC; simp
        · split at h
          · rename_i w; cases h; exact eInt_er w
          · cases h
  · unfold sDay at h
    split at h
    · rename_i w; cases h; exact eInt_er w
    · split at h
      · rename_i w; cases h; exact pDays_er _ _ _ w
      · cases h
theorem pSem_er {o : Er ⊕ (Zt × Nat)} (ho : o = .inl e → erC e) (h : pSem b L o = .inl e) : erC e := by
  unfold pSem at h
  split at h
  · cases h; exact ho rfl
  · split at h
    · rename_i w
      unfold eSem at w
      split at w
      · cases w
      · cases w; cases h; unfold erC; simp
    · cases h
theorem pStm_er (h : pStm b L k Z = .inl e) : erC e := by
  unfold pStm at h
  split at h
  · exact pSem_er s_er.1 h
  split at h
  · exact pSem_er s_er.2.1 h
  split at h
  · exact pSem_er s_er.2.2.1 h
  split at h
  · exact pSem_er s_er.2.2.2.1 h
  split at h
  · exact pSem_er s_er.2.2.2.2 h
  · cases h; unfold erC; simp
theorem pTxt_er : ∀ n k Z c, pTxt b L n k Z c = .inl e → erC e
  | 0, k, Z, c, h => by simp only [pTxt] at h; cases h
  | n + 1, k, Z, c, h => by
    simp only [pTxt] at h
    split at h
    · cases h
    · split at h
      · rename_i w; cases h; exact pStm_er w
      · exact pTxt_er n _ _ _ h
theorem erC_neg (h : erC e) : ¬ 0 ≤ e.1 ∧ ¬ e.1 = 0 := by
  rcases h with h | h | h | h | h | h | h <;> rw [h] <;> decide
end PE1
section PL6
variable {g : fs_G} {d : Nat} {S : List fs_Sh} {fr : Bool} {σ : Nat → Nat → Int32} {τ : Nat → Nat → Int64} {V : Vt} {nL nA nS kp nb : Nat} {Z : Zt}
/-- only the production has changed -/
def cpS (σ σ' : Nat → Nat → Int32) : Prop := ∀ a, ¬ (2 ≤ a ∧ a ≤ 13) → σ' a = σ a
theorem l_cp76 (hX : shX S) (hL : shL S) (hZ : okZ Z) (σ0 : Nat → Nat → Int32) (h0 : DC σ0 Z) : ∀ n k σ, k + n = Z.2.2.1.2.2 → cpS σ0 σ → σ 2 0 = nI Z.2.2.1.1 → σ 2 4 = nI Z.2.2.1.2.1 → σ 2 7 = nI k → (∀ l, l < Z.2.2.1.1 → σ 3 l = Z.1 l ∧ σ 4 l = Z.1 (4 + l) ∧ σ 5 l = Z.1 (8 + l)) → (∀ a, a < Z.2.2.1.2.1 → σ 6 a = Z.1 (12 + a) ∧ σ 7 a = Z.1 (18 + a)) → (∀ j, j < k → σ 8 j = Z.1 (24 + j) ∧ σ 9 j = Z.1 (38 + j) ∧ σ 10 j = Z.1 (52 + j) ∧ σ 11 j = Z.1 (66 + j)) →
    fs_R g m_X4_copyFrom d (0, 0) 76 [.ref 2, .ref 27, .int (nI k)] [] ((S, fr), σ, τ) (fun r M' => r = none ∧ ∃ σ', M' = ((S, fr), σ', τ) ∧ cpS σ0 σ' ∧ (σ' 2 0 = nI Z.2.2.1.1 ∧ σ' 2 4 = nI Z.2.2.1.2.1 ∧ σ' 2 7 = nI Z.2.2.1.2.2) ∧ (∀ l, l < Z.2.2.1.1 → σ' 3 l = Z.1 l ∧ σ' 4 l = Z.1 (4 + l) ∧ σ' 5 l = Z.1 (8 + l)) ∧ (∀ a, a < Z.2.2.1.2.1 → σ' 6 a = Z.1 (12 + a) ∧ σ' 7 a = Z.1 (18 + a)) ∧ (∀ j, j < Z.2.2.1.2.2 → σ' 8 j = Z.1 (24 + j) ∧ σ' 9 j = Z.1 (38 + j) ∧ σ' 10 j = Z.1 (52 + j) ∧ σ' 11 j = Z.1 (66 + j)) ∧ (∀ j, j < 14 → σ' 12 j = Z.2.1 (4 + j)) ∧ ∀ i, i < 4 → σ' 13 i = Z.2.1 i)
  | 0, k, σ, hk, hc, e0, e4, e7, r1, r2, r3 => by
    have hP := hX.2.2.1
    have hQ := hL.2.2.2.1
    have hnS := hZ.1.2.2.2.2.2.1
    have e27 : σ 27 7 = nI Z.2.2.1.2.2 := by rw [hc 27 (by omega)]; exact h0.1.2.2
    refine S_X4_copyFrom_76 ?_
    simp only [T_X4_copyFrom_76, fi_const, fi_iload, fi_aload, fi_istore, fi_astore, fi_iinc, fi_bin, fi_div, fi_un, fi_dup, fi_dup2, fi_pop, fi_if, fi_cmp, fi_getf, fi_putf, fi_putr, fi_ald, fi_ast, fi_alen, fi_iret, fi_zret, fi_vret, fi_cut, fi_no, fi_s0, fi_s1, fi_s2, fi_s3, fi_s4, fi_v0, fi_v1, fi_v2, fi_v3, fi_v4, fi_v5, fi_n0, fi_n1, fi_n2, fi_mm, fi_stat, fi_alds, fi_tsw, List.getElem?_cons_zero, List.getElem?_cons_succ, List.set_cons_zero, List.set_cons_succ, List.length_cons, List.length_nil, Option.toList_some, Option.toList_none, List.cons_append, List.nil_append, Value.category, true_and, k_0, k_1, k_2, k_3, k_4, false_implies, true_implies, reduceCtorEq, hP.1, hQ.1, e27]
    refine pk_le Z.2.2.1.2.2 k (fun _ => ?_) (fun z => by omega)
    refine acp_i (n := 14) (sp := 0) (dp := 0) (a := 37) (b := 12) hQ.2.2.2.2.2.2.2.2.2.2.1 hP.2.2.2.2.2.2.2.2.2.2.1 (by decide) (by decide) (by decide) (by decide) (by decide) ?_
    simp only [fi_const, fi_iload, fi_aload, fi_istore, fi_astore, fi_iinc, fi_bin, fi_div, fi_un, fi_dup, fi_dup2, fi_pop, fi_if, fi_cmp, fi_getf, fi_putf, fi_putr, fi_ald, fi_ast, fi_alen, fi_iret, fi_zret, fi_vret, fi_cut, fi_no, fi_s0, fi_s1, fi_s2, fi_s3, fi_s4, fi_v0, fi_v1, fi_v2, fi_v3, fi_v4, fi_v5, fi_n0, fi_n1, fi_n2, fi_mm, fi_stat, fi_alds, fi_tsw, List.getElem?_cons_zero, List.getElem?_cons_succ, List.set_cons_zero, List.set_cons_succ, List.length_cons, List.length_nil, Option.toList_some, Option.toList_none, List.cons_append, List.nil_append, Value.category, true_and, k_0, k_1, k_2, k_3, k_4, false_implies, true_implies, reduceCtorEq, hP.1, hQ.1]
    refine acp_i (n := 4) (sp := 0) (dp := 0) (a := 38) (b := 13) hQ.2.2.2.2.2.2.2.2.2.2.2 hP.2.2.2.2.2.2.2.2.2.2.2 (by decide) (by decide) (by decide) (by decide) (by decide) ?_
    simp only [fi_const, fi_iload, fi_aload, fi_istore, fi_astore, fi_iinc, fi_bin, fi_div, fi_un, fi_dup, fi_dup2, fi_pop, fi_if, fi_cmp, fi_getf, fi_putf, fi_putr, fi_ald, fi_ast, fi_alen, fi_iret, fi_zret, fi_vret, fi_cut, fi_no, fi_s0, fi_s1, fi_s2, fi_s3, fi_s4, fi_v0, fi_v1, fi_v2, fi_v3, fi_v4, fi_v5, fi_n0, fi_n1, fi_n2, fi_mm, fi_stat, fi_alds, fi_tsw, List.getElem?_cons_zero, List.getElem?_cons_succ, List.set_cons_zero, List.set_cons_succ, List.length_cons, List.length_nil, Option.toList_some, Option.toList_none, List.cons_append, List.nil_append, Value.category, true_and, k_0, k_1, k_2, k_3, k_4, false_implies, true_implies, reduceCtorEq]
    have c : ∀ a, a ≠ 12 → a ≠ 13 → fs_cp (fs_cp σ 12 (σ 37) 0 0 14) 13 (fs_cp σ 12 (σ 37) 0 0 14 38) 0 0 4 a = σ a := fun a h1 h2 => by rw [cp_ne h2, cp_ne h1]
    have ek : k = Z.2.2.1.2.2 := by omega
    refine ⟨_, rfl, fun a ha => by rw [c a (by omega) (by omega)]; exact hc a ha, by rw [c 2 (by decide) (by decide)]; exact ⟨e0, e4, by rw [e7, ek]⟩, by rw [c 3 (by decide) (by decide), c 4 (by decide) (by decide), c 5 (by decide) (by decide)]; exact r1, by rw [c 6 (by decide) (by decide), c 7 (by decide) (by decide)]; exact r2, by rw [c 8 (by decide) (by decide), c 9 (by decide) (by decide), c 10 (by decide) (by decide), c 11 (by decide) (by decide), ← ek]; exact r3, fun j hj => ?_, fun i hi => ?_⟩
    · rw [cp_ne (by decide), cp_at, pk_cpy_in (Nat.zero_le _) (by omega), show 0 + (j - 0) = j by omega, hc 37 (by omega)]; exact h0.2.2.2.2.1 j hj
    · rw [cp_at, pk_cpy_in (Nat.zero_le _) (by omega), show 0 + (i - 0) = i by omega, cp_ne (by decide), hc 38 (by omega)]; exact h0.2.2.2.2.2.1 i hi
  | n + 1, k, σ, hk, hc, e0, e4, e7, r1, r2, r3 => by
    have hP := hX.2.2.1
    have hQ := hL.2.2.2.1
    have hnS := hZ.1.2.2.2.2.2.1
    have e27 : σ 27 7 = nI Z.2.2.1.2.2 := by rw [hc 27 (by omega)]; exact h0.1.2.2
    obtain ⟨b1, b2, b3, b4⟩ := h0.2.2.2.1 k (by omega)
    have i14 : vp_in (nI k) 14 := vp_in_nI (by omega) (by decide)
    have g33 : σ 33 k = Z.1 (24 + k) := by rw [hc 33 (by omega)]; exact b1
    have g34 : σ 34 k = Z.1 (38 + k) := by rw [hc 34 (by omega)]; exact b2
    have g35 : σ 35 k = Z.1 (52 + k) := by rw [hc 35 (by omega)]; exact b3
    have g36 : σ 36 k = Z.1 (66 + k) := by rw [hc 36 (by omega)]; exact b4
    have h01 : Z.1 (52 + k) = 0 ∨ Z.1 (52 + k) = 1 := by have := hZ.1.2.2.2.2.2.2.2.1 k (by omega); simp only [v_ni, zV_2] at this; exact this
    obtain ⟨q, eq⟩ : ∃ q : Bool, Z.1 (52 + k) = bI q := by rcases h01 with w | w; exact ⟨false, w⟩; exact ⟨true, w⟩
    refine S_X4_copyFrom_76 ?_
    simp only [T_X4_copyFrom_76, fi_const, fi_iload, fi_aload, fi_istore, fi_astore, fi_iinc, fi_bin, fi_div, fi_un, fi_dup, fi_dup2, fi_pop, fi_if, fi_cmp, fi_getf, fi_putf, fi_putr, fi_ald, fi_ast, fi_alen, fi_iret, fi_zret, fi_vret, fi_cut, fi_no, fi_s0, fi_s1, fi_s2, fi_s3, fi_s4, fi_v0, fi_v1, fi_v2, fi_v3, fi_v4, fi_v5, fi_n0, fi_n1, fi_n2, fi_mm, fi_stat, fi_alds, fi_tsw, List.getElem?_cons_zero, List.getElem?_cons_succ, List.set_cons_zero, List.set_cons_succ, List.length_cons, List.length_nil, Option.toList_some, Option.toList_none, List.cons_append, List.nil_append, Value.category, true_and, k_0, k_1, k_2, k_3, k_4, false_implies, true_implies, reduceCtorEq, hP.1, hQ.1, e27, hQ.2.2.2.2.2.2.1, hQ.2.2.2.2.2.2.2.1, hQ.2.2.2.2.2.2.2.2.1, hQ.2.2.2.2.2.2.2.2.2.1, i14, nI_clamp (show k < 2 ^ 31 by omega), show 27 + 6 = 33 from rfl, show 27 + 7 = 34 from rfl, show 27 + 8 = 35 from rfl, show 27 + 9 = 36 from rfl, g33, g34, g35, g36, eq]
    refine pk_le Z.2.2.1.2.2 k (fun z => by omega) (fun _ => ⟨by decide, ⟨_, rfl⟩, (c_addScene4 (p := 2) (n := k) hP (by omega) e7 _ _ _ _).mono ?_⟩)
    rintro r M' ⟨rfl, rfl⟩
    simp only [fi_const, fi_iload, fi_aload, fi_istore, fi_astore, fi_iinc, fi_bin, fi_div, fi_un, fi_dup, fi_dup2, fi_pop, fi_if, fi_cmp, fi_getf, fi_putf, fi_putr, fi_ald, fi_ast, fi_alen, fi_iret, fi_zret, fi_vret, fi_cut, fi_no, fi_s0, fi_s1, fi_s2, fi_s3, fi_s4, fi_v0, fi_v1, fi_v2, fi_v3, fi_v4, fi_v5, fi_n0, fi_n1, fi_n2, fi_mm, fi_stat, fi_alds, fi_tsw, List.getElem?_cons_zero, List.getElem?_cons_succ, List.set_cons_zero, List.set_cons_succ, List.length_cons, List.length_nil, Option.toList_some, Option.toList_none, List.cons_append, List.nil_append, Value.category, true_and, k_0, k_1, k_2, k_3, k_4, false_implies, true_implies, reduceCtorEq, nI_1]
    have c : ∀ a, a ≠ 2 → ¬ (8 ≤ a ∧ a ≤ 11) → fs_u (fs_u (fs_u (fs_u (fs_u σ (2 + 6) k (Z.1 (24 + k))) (2 + 7) k (Z.1 (38 + k))) (2 + 8) k (bI q)) (2 + 9) k (Z.1 (66 + k))) 2 7 (nI (k + 1)) a = σ a := fun a h1 h2 => by rw [fs_u_ne h1, fs_u_ne (by omega), fs_u_ne (by omega), fs_u_ne (by omega), fs_u_ne (by omega)]
    refine l_cp76 hX hL hZ σ0 h0 n (k + 1) _ (by omega) (fun a ha => by rw [c a (by omega) (by omega)]; exact hc a ha) ?_ ?_ (u_eq ..) (by rw [c 3 (by decide) (by omega), c 4 (by decide) (by omega), c 5 (by decide) (by omega)]; exact r1) (by rw [c 6 (by decide) (by omega), c 7 (by decide) (by omega)]; exact r2) (fun j hj => ?_)
    · simp only [fs_u]; rw [if_neg (by omega), if_neg (by omega), if_neg (by omega), if_neg (by omega), if_neg (by omega)]; exact e0
    · simp only [fs_u]; rw [if_neg (by omega), if_neg (by omega), if_neg (by omega), if_neg (by omega), if_neg (by omega)]; exact e4
    · by_cases w : j = k
      · subst w
        refine ⟨?_, ?_, ?_, ?_⟩
        · simp [fs_u]
        · simp [fs_u]
        · rw [eq]; simp [fs_u]
        · simp [fs_u]
      · obtain ⟨d1, d2, d3, d4⟩ := r3 j (by omega)
        refine ⟨?_, ?_, ?_, ?_⟩
        · simp only [fs_u]; rw [if_neg (by omega), if_neg (by omega), if_neg (by omega), if_neg (by omega), if_neg (by omega)]; exact d1
        · simp only [fs_u]; rw [if_neg (by omega), if_neg (by omega), if_neg (by omega), if_neg (by omega), if_neg (by omega)]; exact d2
        · simp only [fs_u]; rw [if_neg (by omega), if_neg (by omega), if_neg (by omega), if_neg (by omega), if_neg (by omega)]; exact d3
        · simp only [fs_u]; rw [if_neg (by omega), if_neg (by omega), if_neg (by omega), if_neg (by omega), if_neg (by omega)]; exact d4
theorem l_cp44 (hX : shX S) (hL : shL S) (hZ : okZ Z) (σ0 : Nat → Nat → Int32) (h0 : DC σ0 Z) : ∀ n k σ, k + n = Z.2.2.1.2.1 → cpS σ0 σ → σ 2 0 = nI Z.2.2.1.1 → σ 2 4 = nI k → σ 2 7 = nI 0 → (∀ l, l < Z.2.2.1.1 → σ 3 l = Z.1 l ∧ σ 4 l = Z.1 (4 + l) ∧ σ 5 l = Z.1 (8 + l)) → (∀ a, a < k → σ 6 a = Z.1 (12 + a) ∧ σ 7 a = Z.1 (18 + a)) →
    fs_R g m_X4_copyFrom d (0, 0) 44 [.ref 2, .ref 27, .int (nI k)] [] ((S, fr), σ, τ) (fun r M' => r = none ∧ ∃ σ', M' = ((S, fr), σ', τ) ∧ cpS σ0 σ' ∧ (σ' 2 0 = nI Z.2.2.1.1 ∧ σ' 2 4 = nI Z.2.2.1.2.1 ∧ σ' 2 7 = nI Z.2.2.1.2.2) ∧ (∀ l, l < Z.2.2.1.1 → σ' 3 l = Z.1 l ∧ σ' 4 l = Z.1 (4 + l) ∧ σ' 5 l = Z.1 (8 + l)) ∧ (∀ a, a < Z.2.2.1.2.1 → σ' 6 a = Z.1 (12 + a) ∧ σ' 7 a = Z.1 (18 + a)) ∧ (∀ j, j < Z.2.2.1.2.2 → σ' 8 j = Z.1 (24 + j) ∧ σ' 9 j = Z.1 (38 + j) ∧ σ' 10 j = Z.1 (52 + j) ∧ σ' 11 j = Z.1 (66 + j)) ∧ (∀ j, j < 14 → σ' 12 j = Z.2.1 (4 + j)) ∧ ∀ i, i < 4 → σ' 13 i = Z.2.1 i)
  | 0, k, σ, hk, hc, e0, e4, e7, r1, r2 => by
    have hQ := hL.2.2.2.1
    have hnA := hZ.1.2.2.2.2.1
    have e27 : σ 27 4 = nI Z.2.2.1.2.1 := by rw [hc 27 (by omega)]; exact h0.1.2.1
    have ek : k = Z.2.2.1.2.1 := by omega
    refine S_X4_copyFrom_44 ?_
    simp only [T_X4_copyFrom_44, fi_const, fi_iload, fi_aload, fi_istore, fi_astore, fi_iinc, fi_bin, fi_div, fi_un, fi_dup, fi_dup2, fi_pop, fi_if, fi_cmp, fi_getf, fi_putf, fi_putr, fi_ald, fi_ast, fi_alen, fi_iret, fi_zret, fi_vret, fi_cut, fi_no, fi_s0, fi_s1, fi_s2, fi_s3, fi_s4, fi_v0, fi_v1, fi_v2, fi_v3, fi_v4, fi_v5, fi_n0, fi_n1, fi_n2, fi_mm, fi_stat, fi_alds, fi_tsw, List.getElem?_cons_zero, List.getElem?_cons_succ, List.set_cons_zero, List.set_cons_succ, List.length_cons, List.length_nil, Option.toList_some, Option.toList_none, List.cons_append, List.nil_append, Value.category, true_and, k_0, k_1, k_2, k_3, k_4, false_implies, true_implies, reduceCtorEq, hQ.1, e27]
    refine pk_le Z.2.2.1.2.1 k (fun _ => ?_) (fun z => by omega)
    exact l_cp76 hX hL hZ σ0 h0 Z.2.2.1.2.2 0 σ (by omega) hc e0 (by rw [e4, ek]) e7 r1 (by rw [← ek]; exact r2) (fun j hj => by omega)
  | n + 1, k, σ, hk, hc, e0, e4, e7, r1, r2 => by
    have hP := hX.2.2.1
    have hQ := hL.2.2.2.1
    have hnA := hZ.1.2.2.2.2.1
    have e27 : σ 27 4 = nI Z.2.2.1.2.1 := by rw [hc 27 (by omega)]; exact h0.1.2.1
    obtain ⟨b1, b2⟩ := h0.2.2.1 k (by omega)
    have i6 : vp_in (nI k) 6 := vp_in_nI (by omega) (by decide)
    have g31 : σ 31 k = Z.1 (12 + k) := by rw [hc 31 (by omega)]; exact b1
    have g32 : σ 32 k = Z.1 (18 + k) := by rw [hc 32 (by omega)]; exact b2
    refine S_X4_copyFrom_44 ?_
    simp only [T_X4_copyFrom_44, fi_const, fi_iload, fi_aload, fi_istore, fi_astore, fi_iinc, fi_bin, fi_div, fi_un, fi_dup, fi_dup2, fi_pop, fi_if, fi_cmp, fi_getf, fi_putf, fi_putr, fi_ald, fi_ast, fi_alen, fi_iret, fi_zret, fi_vret, fi_cut, fi_no, fi_s0, fi_s1, fi_s2, fi_s3, fi_s4, fi_v0, fi_v1, fi_v2, fi_v3, fi_v4, fi_v5, fi_n0, fi_n1, fi_n2, fi_mm, fi_stat, fi_alds, fi_tsw, List.getElem?_cons_zero, List.getElem?_cons_succ, List.set_cons_zero, List.set_cons_succ, List.length_cons, List.length_nil, Option.toList_some, Option.toList_none, List.cons_append, List.nil_append, Value.category, true_and, k_0, k_1, k_2, k_3, k_4, false_implies, true_implies, reduceCtorEq, hP.1, hQ.1, e27, hQ.2.2.2.2.1, hQ.2.2.2.2.2.1, i6, nI_clamp (show k < 2 ^ 31 by omega), show 27 + 4 = 31 from rfl, show 27 + 5 = 32 from rfl, g31, g32]
    refine pk_le Z.2.2.1.2.1 k (fun z => by omega) (fun _ => ⟨by decide, ⟨_, rfl⟩, (c_addActor (p := 2) (n := k) hP (by omega) e4 _ _).mono ?_⟩)
    rintro r M' ⟨rfl, rfl⟩
    simp only [fi_const, fi_iload, fi_aload, fi_istore, fi_astore, fi_iinc, fi_bin, fi_div, fi_un, fi_dup, fi_dup2, fi_pop, fi_if, fi_cmp, fi_getf, fi_putf, fi_putr, fi_ald, fi_ast, fi_alen, fi_iret, fi_zret, fi_vret, fi_cut, fi_no, fi_s0, fi_s1, fi_s2, fi_s3, fi_s4, fi_v0, fi_v1, fi_v2, fi_v3, fi_v4, fi_v5, fi_n0, fi_n1, fi_n2, fi_mm, fi_stat, fi_alds, fi_tsw, List.getElem?_cons_zero, List.getElem?_cons_succ, List.set_cons_zero, List.set_cons_succ, List.length_cons, List.length_nil, Option.toList_some, Option.toList_none, List.cons_append, List.nil_append, Value.category, true_and, k_0, k_1, k_2, k_3, k_4, false_implies, true_implies, reduceCtorEq, nI_1]
    have c : ∀ a, a ≠ 2 → a ≠ 6 → a ≠ 7 → fs_u (fs_u (fs_u σ (2 + 4) k (Z.1 (12 + k))) (2 + 5) k (Z.1 (18 + k))) 2 4 (nI (k + 1)) a = σ a := fun a h1 h2 h3 => by rw [fs_u_ne h1, fs_u_ne (by omega), fs_u_ne (by omega)]
    refine l_cp44 hX hL hZ σ0 h0 n (k + 1) _ (by omega) (fun a ha => by rw [c a (by omega) (by omega) (by omega)]; exact hc a ha) ?_ (u_eq ..) ?_ (by rw [c 3 (by decide) (by decide) (by decide), c 4 (by decide) (by decide) (by decide), c 5 (by decide) (by decide) (by decide)]; exact r1) (fun j hj => ?_)
    · simp only [fs_u]; rw [if_neg (by omega), if_neg (by omega), if_neg (by omega)]; exact e0
    · simp only [fs_u]; rw [if_neg (by omega), if_neg (by omega), if_neg (by omega)]; exact e7
    · by_cases w : j = k
      · subst w
        exact ⟨by simp [fs_u], by simp [fs_u]⟩
      · obtain ⟨d1, d2⟩ := r2 j (by omega)
        refine ⟨?_, ?_⟩
        · simp only [fs_u]; rw [if_neg (by omega), if_neg (by omega), if_neg (by omega)]; exact d1
        · simp only [fs_u]; rw [if_neg (by omega), if_neg (by omega), if_neg (by omega)]; exact d2
theorem l_cp6 (hX : shX S) (hL : shL S) (hZ : okZ Z) (σ0 : Nat → Nat → Int32) (h0 : DC σ0 Z) : ∀ n k σ, k + n = Z.2.2.1.1 → cpS σ0 σ → σ 2 0 = nI k → σ 2 4 = nI 0 → σ 2 7 = nI 0 → (∀ l, l < k → σ 3 l = Z.1 l ∧ σ 4 l = Z.1 (4 + l) ∧ σ 5 l = Z.1 (8 + l)) →
    fs_R g m_X4_copyFrom d (0, 0) 6 [.ref 2, .ref 27, .int (nI k)] [] ((S, fr), σ, τ) (fun r M' => r = none ∧ ∃ σ', M' = ((S, fr), σ', τ) ∧ cpS σ0 σ' ∧ (σ' 2 0 = nI Z.2.2.1.1 ∧ σ' 2 4 = nI Z.2.2.1.2.1 ∧ σ' 2 7 = nI Z.2.2.1.2.2) ∧ (∀ l, l < Z.2.2.1.1 → σ' 3 l = Z.1 l ∧ σ' 4 l = Z.1 (4 + l) ∧ σ' 5 l = Z.1 (8 + l)) ∧ (∀ a, a < Z.2.2.1.2.1 → σ' 6 a = Z.1 (12 + a) ∧ σ' 7 a = Z.1 (18 + a)) ∧ (∀ j, j < Z.2.2.1.2.2 → σ' 8 j = Z.1 (24 + j) ∧ σ' 9 j = Z.1 (38 + j) ∧ σ' 10 j = Z.1 (52 + j) ∧ σ' 11 j = Z.1 (66 + j)) ∧ (∀ j, j < 14 → σ' 12 j = Z.2.1 (4 + j)) ∧ ∀ i, i < 4 → σ' 13 i = Z.2.1 i)
  | 0, k, σ, hk, hc, e0, e4, e7, r1 => by
    have hQ := hL.2.2.2.1
    have hnL := hZ.1.2.2.2.1
    have e27 : σ 27 0 = nI Z.2.2.1.1 := by rw [hc 27 (by omega)]; exact h0.1.1
    have ek : k = Z.2.2.1.1 := by omega
    refine S_X4_copyFrom_6 ?_
    simp only [T_X4_copyFrom_6, fi_const, fi_iload, fi_aload, fi_istore, fi_astore, fi_iinc, fi_bin, fi_div, fi_un, fi_dup, fi_dup2, fi_pop, fi_if, fi_cmp, fi_getf, fi_putf, fi_putr, fi_ald, fi_ast, fi_alen, fi_iret, fi_zret, fi_vret, fi_cut, fi_no, fi_s0, fi_s1, fi_s2, fi_s3, fi_s4, fi_v0, fi_v1, fi_v2, fi_v3, fi_v4, fi_v5, fi_n0, fi_n1, fi_n2, fi_mm, fi_stat, fi_alds, fi_tsw, List.getElem?_cons_zero, List.getElem?_cons_succ, List.set_cons_zero, List.set_cons_succ, List.length_cons, List.length_nil, Option.toList_some, Option.toList_none, List.cons_append, List.nil_append, Value.category, true_and, k_0, k_1, k_2, k_3, k_4, false_implies, true_implies, reduceCtorEq, hQ.1, e27]
    refine pk_le Z.2.2.1.1 k (fun _ => ?_) (fun z => by omega)
    exact l_cp44 hX hL hZ σ0 h0 Z.2.2.1.2.1 0 σ (by omega) hc (by rw [e0, ek]) e4 e7 (by rw [← ek]; exact r1) (fun j hj => by omega)
  | n + 1, k, σ, hk, hc, e0, e4, e7, r1 => by
    have hP := hX.2.2.1
    have hQ := hL.2.2.2.1
    have hnL := hZ.1.2.2.2.1
    have e27 : σ 27 0 = nI Z.2.2.1.1 := by rw [hc 27 (by omega)]; exact h0.1.1
    obtain ⟨b1, b2, b3⟩ := h0.2.1 k (by omega)
    have i4 : vp_in (nI k) 4 := vp_in_nI (by omega) (by decide)
    have g28 : σ 28 k = Z.1 k := by rw [hc 28 (by omega)]; exact b1
    have g29 : σ 29 k = Z.1 (4 + k) := by rw [hc 29 (by omega)]; exact b2
    have g30 : σ 30 k = Z.1 (8 + k) := by rw [hc 30 (by omega)]; exact b3
    have h01 : Z.1 (8 + k) = 0 ∨ Z.1 (8 + k) = 1 := by have := hZ.1.2.2.2.2.2.2.1 k (by omega); simp only [zV_2] at this; exact this
    obtain ⟨q, eq⟩ : ∃ q : Bool, Z.1 (8 + k) = bI q := by rcases h01 with w | w; exact ⟨false, w⟩; exact ⟨true, w⟩
    refine S_X4_copyFrom_6 ?_
    simp only [T_X4_copyFrom_6, fi_const, fi_iload, fi_aload, fi_istore, fi_astore, fi_iinc, fi_bin, fi_div, fi_un, fi_dup, fi_dup2, fi_pop, fi_if, fi_cmp, fi_getf, fi_putf, fi_putr, fi_ald, fi_ast, fi_alen, fi_iret, fi_zret, fi_vret, fi_cut, fi_no, fi_s0, fi_s1, fi_s2, fi_s3, fi_s4, fi_v0, fi_v1, fi_v2, fi_v3, fi_v4, fi_v5, fi_n0, fi_n1, fi_n2, fi_mm, fi_stat, fi_alds, fi_tsw, List.getElem?_cons_zero, List.getElem?_cons_succ, List.set_cons_zero, List.set_cons_succ, List.length_cons, List.length_nil, Option.toList_some, Option.toList_none, List.cons_append, List.nil_append, Value.category, true_and, k_0, k_1, k_2, k_3, k_4, false_implies, true_implies, reduceCtorEq, hP.1, hQ.1, e27, hQ.2.1, hQ.2.2.1, hQ.2.2.2.1, i4, nI_clamp (show k < 2 ^ 31 by omega), show 27 + 1 = 28 from rfl, show 27 + 2 = 29 from rfl, show 27 + 3 = 30 from rfl, g28, g29, g30, eq]
    refine pk_le Z.2.2.1.1 k (fun z => by omega) (fun _ => ⟨by decide, ⟨_, rfl⟩, (c_addLocation (p := 2) (n := k) hP (by omega) e0 _ _ _).mono ?_⟩)
    rintro r M' ⟨rfl, rfl⟩
    simp only [fi_const, fi_iload, fi_aload, fi_istore, fi_astore, fi_iinc, fi_bin, fi_div, fi_un, fi_dup, fi_dup2, fi_pop, fi_if, fi_cmp, fi_getf, fi_putf, fi_putr, fi_ald, fi_ast, fi_alen, fi_iret, fi_zret, fi_vret, fi_cut, fi_no, fi_s0, fi_s1, fi_s2, fi_s3, fi_s4, fi_v0, fi_v1, fi_v2, fi_v3, fi_v4, fi_v5, fi_n0, fi_n1, fi_n2, fi_mm, fi_stat, fi_alds, fi_tsw, List.getElem?_cons_zero, List.getElem?_cons_succ, List.set_cons_zero, List.set_cons_succ, List.length_cons, List.length_nil, Option.toList_some, Option.toList_none, List.cons_append, List.nil_append, Value.category, true_and, k_0, k_1, k_2, k_3, k_4, false_implies, true_implies, reduceCtorEq, nI_1]
    have c : ∀ a, a ≠ 2 → ¬ (3 ≤ a ∧ a ≤ 5) → fs_u (fs_u (fs_u (fs_u σ (2 + 1) k (Z.1 k)) (2 + 2) k (Z.1 (4 + k))) (2 + 3) k (bI q)) 2 0 (nI (k + 1)) a = σ a := fun a h1 h2 => by rw [fs_u_ne h1, fs_u_ne (by omega), fs_u_ne (by omega), fs_u_ne (by omega)]
    refine l_cp6 hX hL hZ σ0 h0 n (k + 1) _ (by omega) (fun a ha => by rw [c a (by omega) (by omega)]; exact hc a ha) (u_eq ..) ?_ ?_ (fun j hj => ?_)
    · simp only [fs_u]; rw [if_neg (by omega), if_neg (by omega), if_neg (by omega), if_neg (by omega)]; exact e4
    · simp only [fs_u]; rw [if_neg (by omega), if_neg (by omega), if_neg (by omega), if_neg (by omega)]; exact e7
    · by_cases w : j = k
      · subst w
        exact ⟨by simp [fs_u], by simp [fs_u], by rw [eq]; simp [fs_u]⟩
      · obtain ⟨d1, d2, d3⟩ := r1 j (by omega)
        refine ⟨?_, ?_, ?_⟩
        · simp only [fs_u]; rw [if_neg (by omega), if_neg (by omega), if_neg (by omega), if_neg (by omega)]; exact d1
        · simp only [fs_u]; rw [if_neg (by omega), if_neg (by omega), if_neg (by omega), if_neg (by omega)]; exact d2
        · simp only [fs_u]; rw [if_neg (by omega), if_neg (by omega), if_neg (by omega), if_neg (by omega)]; exact d3
theorem c_copyFrom (hX : shX S) (hL : shL S) (hZ : okZ Z) (h0 : DC σ Z) : fs_Ct g m_X4_copyFrom [.ref 2, .ref 27] ((S, fr), σ, τ) (fun r M' => r = none ∧ ∃ σ', M' = ((S, fr), σ', τ) ∧ cpS σ σ' ∧ (σ' 2 0 = nI Z.2.2.1.1 ∧ σ' 2 4 = nI Z.2.2.1.2.1 ∧ σ' 2 7 = nI Z.2.2.1.2.2) ∧ (∀ l, l < Z.2.2.1.1 → σ' 3 l = Z.1 l ∧ σ' 4 l = Z.1 (4 + l) ∧ σ' 5 l = Z.1 (8 + l)) ∧ (∀ a, a < Z.2.2.1.2.1 → σ' 6 a = Z.1 (12 + a) ∧ σ' 7 a = Z.1 (18 + a)) ∧ (∀ j, j < Z.2.2.1.2.2 → σ' 8 j = Z.1 (24 + j) ∧ σ' 9 j = Z.1 (38 + j) ∧ σ' 10 j = Z.1 (52 + j) ∧ σ' 11 j = Z.1 (66 + j)) ∧ (∀ j, j < 14 → σ' 12 j = Z.2.1 (4 + j)) ∧ ∀ i, i < 4 → σ' 13 i = Z.2.1 i) := by
  have hP := hX.2.2.1
  refine fs_enterC (by decide) (by simp [fs_ok]) (Nat.le_of_ble_eq_true rfl) (fun d => S_X4_copyFrom_0 ?_)
  show T_X4_copyFrom_0 g d _ [.ref 2, .ref 27, .null] [] _
  simp only [T_X4_copyFrom_0, fi_const, fi_iload, fi_aload, fi_istore, fi_astore, fi_iinc, fi_bin, fi_div, fi_un, fi_dup, fi_dup2, fi_pop, fi_if, fi_cmp, fi_getf, fi_putf, fi_putr, fi_ald, fi_ast, fi_alen, fi_iret, fi_zret, fi_vret, fi_cut, fi_no, fi_s0, fi_s1, fi_s2, fi_s3, fi_s4, fi_v0, fi_v1, fi_v2, fi_v3, fi_v4, fi_v5, fi_n0, fi_n1, fi_n2, fi_mm, fi_stat, fi_alds, fi_tsw, List.getElem?_cons_zero, List.getElem?_cons_succ, List.set_cons_zero, List.set_cons_succ, List.length_cons, List.length_nil, Option.toList_some, Option.toList_none, List.cons_append, List.nil_append, Value.category, true_and, k_0, k_1, k_2, k_3, k_4, false_implies, true_implies, reduceCtorEq]
  simp only [fi_const, fi_iload, fi_aload, fi_istore, fi_astore, fi_iinc, fi_bin, fi_div, fi_un, fi_dup, fi_dup2, fi_pop, fi_if, fi_cmp, fi_getf, fi_putf, fi_putr, fi_ald, fi_ast, fi_alen, fi_iret, fi_zret, fi_vret, fi_cut, fi_no, fi_s0, fi_s1, fi_s2, fi_s3, fi_s4, fi_v0, fi_v1, fi_v2, fi_v3, fi_v4, fi_v5, fi_n0, fi_n1, fi_n2, fi_mm, fi_stat, fi_alds, fi_tsw, List.getElem?_cons_zero, List.getElem?_cons_succ, List.set_cons_zero, List.set_cons_succ, List.length_cons, List.length_nil, Option.toList_some, Option.toList_none, List.cons_append, List.nil_append, Value.category, true_and, k_0, k_1, k_2, k_3, k_4, false_implies, true_implies, reduceCtorEq, hP.1]
  refine ⟨by decide, ⟨_, rfl⟩, (c_clear (p := 2) hP).mono ?_⟩
  rintro r M' ⟨rfl, σ1, rfl, f1, f2, f3, f4, f5, f6, f7⟩
  simp only [fi_const, fi_iload, fi_aload, fi_istore, fi_astore, fi_iinc, fi_bin, fi_div, fi_un, fi_dup, fi_dup2, fi_pop, fi_if, fi_cmp, fi_getf, fi_putf, fi_putr, fi_ald, fi_ast, fi_alen, fi_iret, fi_zret, fi_vret, fi_cut, fi_no, fi_s0, fi_s1, fi_s2, fi_s3, fi_s4, fi_v0, fi_v1, fi_v2, fi_v3, fi_v4, fi_v5, fi_n0, fi_n1, fi_n2, fi_mm, fi_stat, fi_alds, fi_tsw, List.getElem?_cons_zero, List.getElem?_cons_succ, List.set_cons_zero, List.set_cons_succ, List.length_cons, List.length_nil, Option.toList_some, Option.toList_none, List.cons_append, List.nil_append, Value.category, true_and, k_0, k_1, k_2, k_3, k_4, false_implies, true_implies, reduceCtorEq]
  exact l_cp6 hX hL hZ σ h0 Z.2.2.1.1 0 σ1 (by omega) (fun a ha => f1 a (by omega) (by omega) (by omega)) f3 f4 f5 (fun l hl => by omega)
end PL6
