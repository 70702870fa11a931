/-! ===== the law: its loop ===== -/
section LW1
variable {g : fs_G} {N d : Nat} {Q : Option Value → fs_M → Prop}
theorem lp_end {X i : Nat} (hX : X < 2 ^ 31) (hi : 6 * i ≤ X) : nI X - 6 < nI (6 * i) ↔ X < 6 * i + 6 := by
  by_cases q : 6 ≤ X
  · rw [show (6 : Int32) = nI 6 from rfl, pk_sub q, nI_ltI (by omega) (by omega)]; omega
  · have hi0 : i = 0 := by omega
    subst hi0
    have : X = 0 ∨ X = 1 ∨ X = 2 ∨ X = 3 ∨ X = 4 ∨ X = 5 := by omega
    rcases this with rfl | rfl | rfl | rfl | rfl | rfl <;> decide
theorem l_law23 (hl : g.1.stackTraces = false) (hX : fs_XL g < 2 ^ 31) (hN : fs_XL g < 6 * N) (hQ : ∀ σ τ fr, Q (some (.int 1)) ((S70, fr), σ, τ)) : ∀ n i u σ τ fr v5 v6, i + n = N → 6 * i ≤ fs_XL g → lpP σ → bd u i → fs_R g (m_L_law N) d u 23 (lls i v5 v6) [] ((S70, fr), σ, τ) Q := by
  intro n
  induction n with
  | zero =>
    intro i u σ τ fr v5 v6 hn hi hp hu
    omega
  | succ n ih =>
    intro i u σ τ fr v5 v6 hn hi hp hu
    obtain ⟨V, nL, nA, nS, kp, nb, hp⟩ := hp
    have hiN : i < N := by omega
    refine S_L_law_23 (hu.B hiN) ?_
    simp only [T_L_law_23, lls, fi_sln, fi_scr, fi_const, fi_iload, fi_aload, fi_istore, fi_astore, fi_iinc, fi_bin, fi_div, fi_un, fi_dup, fi_dup2, fi_pop, fi_if, fi_cmp, fi_getf, fi_putf, fi_putr, fi_ald, fi_ast, fi_alen, fi_iret, fi_zret, fi_vret, fi_cut, fi_no, fi_s0, fi_s1, fi_s2, fi_s3, fi_s4, fi_v0, fi_v1, fi_v2, fi_v3, fi_v4, fi_v5, fi_n0, fi_n1, fi_n2, fi_mm, fi_stat, fi_alds, fi_tsw, List.getElem?_cons_zero, List.getElem?_cons_succ, List.set_cons_zero, List.set_cons_succ, List.length_cons, List.length_nil, Option.toList_some, Option.toList_none, List.cons_append, List.nil_append, Value.category, true_and, k_0, k_1, k_2, k_3, k_4, false_implies, true_implies, reduceCtorEq]
    refine ⟨fun z => ⟨Or.inr trivial, hQ _ _ _⟩, fun z => ?_⟩
    have h6 : 6 * i + 6 ≤ fs_XL g := by
      have : ¬ fs_XL g < 6 * i + 6 := fun w => z ((lp_end hX hi).mpr w)
      omega
    have hx : scO g i := ⟨h6, hX⟩
    have K : nxt g N d i Q := by
      intro u' σ' τ' fr' w5 w6 hp' hu'
      have e6 : nI (6 * i) + 6 = nI (6 * (i + 1)) := by rw [show (6 : Int32) = nI 6 from rfl, nI_add]; congr 1
      refine S_L_law_2031 (hu'.B (by omega)) ?_
      simp only [T_L_law_2031, lls, fi_const, fi_iload, fi_aload, fi_istore, fi_astore, fi_iinc, fi_bin, fi_div, fi_un, fi_dup, fi_dup2, fi_pop, fi_if, fi_cmp, fi_getf, fi_putf, fi_putr, fi_ald, fi_ast, fi_alen, fi_iret, fi_zret, fi_vret, fi_cut, fi_no, fi_s0, fi_s1, fi_s2, fi_s3, fi_s4, fi_v0, fi_v1, fi_v2, fi_v3, fi_v4, fi_v5, fi_n0, fi_n1, fi_n2, fi_mm, fi_stat, fi_alds, fi_tsw, List.getElem?_cons_zero, List.getElem?_cons_succ, List.set_cons_zero, List.set_cons_succ, List.length_cons, List.length_nil, Option.toList_some, Option.toList_none, List.cons_append, List.nil_append, Value.category, true_and, k_0, k_1, k_2, k_3, k_4, false_implies, true_implies, reduceCtorEq, e6]
      exact ih (i + 1) u' σ' τ' fr' w5 w6 (by omega) (by omega) hp' hu'
    refine ⟨vp_in_nI (by omega) hX, fun j hj _ => ?_, fun _ => ?_⟩
    · match j, hj with
      | 0, _ => exact L_feed hp hiN hu hx K
      | 1, _ => exact L_load hp hiN hu hx K
      | 2, _ => exact L_errorPosition hp hiN hu K
      | 3, _ => exact L_locationCount hp hiN hu K
      | 4, _ => exact L_actorCount hp hiN hu K
      | 5, _ => exact L_sceneCount hp hiN hu K
      | 6, _ => exact L_undoCount hp hiN hu K
      | 7, _ => exact L_locationNamed hp hiN hu hx K
      | 8, _ => exact L_actorNamed hp hiN hu hx K
      | 9, _ => exact L_getSetting hp hiN hu hx K
      | 10, _ => exact L_locationProperty hl hp hiN hu hx K
      | 11, _ => exact L_feeOf hl hp hiN hu hx K
      | 12, _ => exact L_sceneProperty hl hp hiN hu hx K
      | 13, _ => exact L_dayOf hl hp hiN hu hx K
      | 14, _ => exact L_scenesOn hl hp hiN hu hx K
      | 15, _ => exact L_locationOn hl hp hiN hu hx K
      | 16, _ => exact L_isNight hl hp hiN hu hx K
      | 17, _ => exact L_lengthOn hl hp hiN hu hx K
      | 18, _ => exact L_castOn hl hp hiN hu hx K
      | 19, _ => exact L_span hp hiN hu K
      | 20, _ => exact L_statusOf hl hp hiN hu hx K
      | 21, _ => exact L_firstDay hl hp hiN hu hx K
      | 22, _ => exact L_lastDay hl hp hiN hu hx K
      | 23, _ => exact L_daysWith hl hp hiN hu hx K
      | 24, _ => exact L_actorCost hl hp hiN hu hx K
      | 25, _ => exact L_moves hp hiN hu K
      | 26, _ => exact L_cost hp hiN hu K
      | 27, _ => exact L_holdingCost hp hiN hu K
      | 28, _ => exact L_reasonFor hl hp hiN hu hx K
      | 29, _ => exact L_daysFor hl hp hiN hu hx K
      | 30, _ => exact L_costWith hl hp hiN hu hx K
      | 31, _ => exact L_bestDay hl hp hiN hu hx K
      | 32, _ => exact L_fewestDays hp hiN hu K
      | 33, _ => exact L_waitingFor hl hp hiN hu hx K
      | 34, _ => exact L_rainDays hp hiN hu hx K
      | 35, _ => exact L_rainLost hp hiN hu hx K
      | 36, _ => exact L_rainDay hp hiN hu hx K
      | 37, _ => exact L_worstRain hp hiN hu K
      | 38, _ => exact L_bestCost hp hiN hu K
      | 39, _ => exact L_bestOrder hp hiN hu hx K
      | 40, _ => exact L_put hp hiN hu hx K
      | 41, _ => exact L_take hp hiN hu hx K
      | 42, _ => exact L_exchange hp hiN hu hx K
      | 43, _ => exact L_fill hp hiN hu hx K
      | 44, _ => exact L_useBest hp hiN hu hx K
      | 45, _ => exact L_setSetting hp hiN hu hx K
      | 46, _ => exact L_undo hp hiN hu hx K
      | _ + 47, h => exact absurd h (by omega)
    · exact K u σ τ fr v5 v6 ⟨V, nL, nA, nS, kp, nb, hp⟩ hu.s
/-- the law's body: it answers true -/
theorem l_law (hl : g.1.stackTraces = false) (hX : fs_XL g < 2 ^ 31) (hN : fs_XL g < 6 * N) {σ : Nat → Nat → Int32} {τ : Nat → Nat → Int64} : fs_R g (m_L_law N) d (0, 0) 0 [.ref 10050, .null, .null, .null, .null, .null, .null] [] (([], true), σ, τ) (fun r _ => r = some (.int 1)) :=
  l_law0 (fun σ' τ' h1 h2 => l_law23 hl hX hN (fun _ _ _ => rfl) N 0 (70, 3237) σ' τ' true .null .null (Nat.zero_add N) (Nat.zero_le _) ⟨V0, 0, 0, 0, 0, 0, okV_0, h1, h2⟩ ⟨Nat.le_refl _, Nat.le_refl _⟩)
end LW1
