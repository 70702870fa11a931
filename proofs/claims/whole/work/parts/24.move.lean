/-! ===== a scene moved ===== -/
theorem cons.off {dy lo ni : Nat → Int32} {n k : Nat} (h : cons dy lo ni n) : cons (dyA dy k (-1)) lo ni n := by
  intro i j e hi hj he h1 h2
  by_cases q1 : i = k
  · subst q1; rw [dyA_at] at h1; exact absurd h1 (m1_nI he)
  · by_cases q2 : j = k
    · subst q2; rw [dyA_at] at h2; exact absurd h2 (m1_nI he)
    · rw [dyA_ne q1] at h1
      rw [dyA_ne q2] at h2
      exact h i j e hi hj he h1 h2
theorem reF_zero {lo ni le ca : Nat → Int32} {cap : Int32} {dy : Nat → Int32} {n k e : Nat} (h : reF lo ni le ca cap dy n k e = 0) : (scF dy e n = 0 ∨ loF dy lo e n = lo k) ∧ (scF dy e n = 0 ∨ niF dy ni e n = ni k) := by
  unfold reF rsF at h
  by_cases q1 : ¬ scF dy e n = 0 ∧ ¬ loF dy lo e n = lo k
  · rw [if_pos q1] at h; exact absurd h (by decide)
  · rw [if_neg q1] at h
    by_cases q2 : ¬ scF dy e n = 0 ∧ ¬ niF dy ni e n = ni k
    · rw [if_pos q2] at h; exact absurd h (by decide)
    · constructor
      · by_cases z : scF dy e n = 0
        · exact Or.inl z
        · exact Or.inr (Decidable.byContradiction fun w => q1 ⟨z, w⟩)
      · by_cases z : scF dy e n = 0
        · exact Or.inl z
        · exact Or.inr (Decidable.byContradiction fun w => q2 ⟨z, w⟩)
theorem cons.move {dy lo ni le ca : Nat → Int32} {cap : Int32} {n k e : Nat} (hn : n ≤ 14) (he : e < 12) (h : cons dy lo ni n) (hr : reF lo ni le ca cap (dyA dy k (-1)) n k e = 0) : cons (dyA dy k (nI e)) lo ni n := by
  have ho := h.off (k := k)
  obtain ⟨r1, r2⟩ := reF_zero hr
  have key : ∀ j, j < n → j ≠ k → dy j = nI e → lo k = lo j ∧ ni k = ni j := by
    intro j hj hjk hd
    have hz : ¬ scF (dyA dy k (-1)) e n = 0 := fun z => (scF_zero n hn).mp z j hj (by rw [dyA_ne hjk]; exact hd)
    obtain ⟨p1, p2⟩ := loF_pl ho he
    obtain ⟨p3, p4⟩ := plF_of ho he hj (by rw [dyA_ne hjk]; exact hd)
    refine ⟨?_, ?_⟩
    · rcases r1 with z | z
      · exact absurd z hz
      · rw [← z, p1, p3]
    · rcases r2 with z | z
      · exact absurd z hz
      · rw [← z, p2, p4]
  intro i j f hi hj hf h1 h2
  by_cases q1 : i = k
  · by_cases q2 : j = k
    · rw [q1, q2]; exact ⟨rfl, rfl⟩
    · rw [q1, dyA_at] at h1
      rw [dyA_ne q2, ← h1] at h2
      rw [q1]
      exact key j hj q2 h2
  · by_cases q2 : j = k
    · rw [q2, dyA_at] at h2
      rw [dyA_ne q1, ← h2] at h1
      rw [q2]
      obtain ⟨a, b⟩ := key i hi q1 h1
      exact ⟨a.symm, b.symm⟩
    · rw [dyA_ne q1] at h1
      rw [dyA_ne q2] at h2
      exact h i j f hi hj hf h1 h2
theorem anF_iff {dy dy' : Nat → Int32} {e : Nat} : ∀ {n k : Nat}, (∀ j, j < k + n → (dy j = nI e ↔ dy' j = nI e)) → anF dy e n k = anF dy' e n k
  | 0, _, _ => rfl
  | n + 1, k, h => by
    simp only [anF]
    have h1 := h k (by omega)
    rw [anF_iff (n := n) (k := k + 1) (fun j hj => h j (by omega))]
    by_cases q : dy k = nI e
    · rw [if_pos q, if_pos (h1.mp q)]
    · rw [if_neg q, if_neg (fun z => q (h1.mpr z))]
theorem tab_move {σ σ1 σ' : Nat → Nat → Int32} {t p n k e : Nat} {dy : Nat → Int32} (hn : n ≤ 14) (hk : k < n) (he : e < 12) (hpt : p + 12 ≤ t) (hs1 : same σ σ1 (inT t)) (hs : same σ σ' (inT t)) (hc : cons (dyA dy k (nI e)) (σ (p + 6)) (σ (p + 8)) n) (hv : shows σ1 t p (dyA dy k (-1)) n) (hp : plus σ1 σ' t p k (nI e)) : tab σ' t p (dyA dy k (nI e)) n := by
  have f1 : ∀ i, i < 12 → σ1 (p + i) = σ (p + i) := fun i hi => hs1 (p + i) (fun z => by have := z.1; omega)
  have f2 : ∀ i, i < 12 → σ' (p + i) = σ (p + i) := fun i hi => hs (p + i) (fun z => by have := z.1; omega)
  have hoff : cons (dyA dy k (-1)) (σ (p + 6)) (σ (p + 8)) n := by
    intro i j f hi hj hf h1 h2
    have g1 : i ≠ k := fun q => by rw [q, dyA_at] at h1; exact m1_nI hf h1
    have g2 : j ≠ k := fun q => by rw [q, dyA_at] at h2; exact m1_nI hf h2
    rw [dyA_ne g1] at h1
    rw [dyA_ne g2] at h2
    exact hc i j f hi hj hf (by rw [dyA_ne g1]; exact h1) (by rw [dyA_ne g2]; exact h2)
  intro f hf
  obtain ⟨s1, s2, s3, s4, s5⟩ := hv f hf
  obtain ⟨q1, q2, q3, q4, q5⟩ := hp f hf
  rw [f1 6 (by decide)] at s2 q2
  rw [f1 8 (by decide)] at s3 q3
  rw [f1 7 (by decide)] at s4 q4
  rw [f1 9 (by decide)] at s5 q5
  rw [q1, q2, q3, q4, q5, s1, s2, s3, s4, s5, f2 6 (by decide), f2 7 (by decide), f2 8 (by decide), f2 9 (by decide), scF_add he hf n, leF_add he hf n, caF_add he hf n]
  have hef : (nI e = nI f) ↔ (e = f) := nI_eq (by omega) (by omega)
  by_cases q : e = f
  · subst q
    obtain ⟨w1, w2⟩ := plF_of hc he hk (dyA_at (dy := dy) (k := k) (x := nI e))
    simp [hk, w1, w2]
  · have hne : ¬ nI e = nI f := fun z => q (hef.mp z)
    obtain ⟨w1, w2⟩ := loF_pl hoff hf
    have ha : anF (dyA dy k (-1)) f n 0 = anF (dyA dy k (nI e)) f n 0 := anF_iff (fun j _ => by
      by_cases z : j = k
      · subst z
        rw [dyA_at, dyA_at]
        exact ⟨fun h => absurd h (m1_nI hf), fun h => absurd h hne⟩
      · rw [dyA_ne z, dyA_ne z])
    rw [w1, w2]
    simp only [plF, pnF, ha, hne, q, if_false, and_false, and_self]
section PD5
variable {g : fs_G} {d : Nat} {S : List fs_Sh} {fr : Bool} {σ : Nat → Nat → Int32} {τ : Nat → Nat → Int64} {p t : Nat}
theorem c_move (hD : shD S t p) (hP : shP S p) (hpt : p + 12 ≤ t) {nS : Nat} (hnS : nS ≤ 14) (hc : σ p 7 = nI nS) (hni : ∀ k, k < nS → σ (p + 8) k = 0 ∨ σ (p + 8) k = 1) (hco : cons (σ (p + 10)) (σ (p + 6)) (σ (p + 8)) nS) {k e : Nat} (hk : k < nS) (he : e < 12) : fs_Ct g m_X0_moveScene [.ref t, .int (nI k), .int (nI e)] ((S, fr), σ, τ) (fun r M' => r = some (.int (reF (σ (p + 6)) (σ (p + 8)) (σ (p + 7)) (σ (p + 9)) (σ (p + 11) 0) (dyA (σ (p + 10)) k (-1)) nS k e)) ∧ ∃ σ', M' = ((S, fr), σ', τ) ∧ same σ σ' (inT t) ∧ (reF (σ (p + 6)) (σ (p + 8)) (σ (p + 7)) (σ (p + 9)) (σ (p + 11) 0) (dyA (σ (p + 10)) k (-1)) nS k e = 0 → tab σ' t p (dyA (σ (p + 10)) k (nI e)) nS)) := by
  refine (c_moveScene hD hP hpt hnS hc hni hk he).mono ?_
  rintro r M' ⟨rfl, σ', rfl, hs, h⟩
  refine ⟨rfl, σ', rfl, hs, fun q => ?_⟩
  obtain ⟨σ1, hs1, hv, hp⟩ := h q
  exact tab_move hnS hk he hpt hs1 hs (hco.move hnS he q) hv hp
end PD5
