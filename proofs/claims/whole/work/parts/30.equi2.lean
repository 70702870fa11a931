/-! ===== the table of an actor: both sides alike ===== -/
theorem fstB_spec {f : Nat → Bool} : ∀ n k, (fstB f n k = -1 ∧ ∀ j, k ≤ j → j < k + n → f j = false) ∨ ∃ j, fstB f n k = nI j ∧ k ≤ j ∧ j < k + n ∧ f j = true ∧ ∀ i, k ≤ i → i < j → f i = false
  | 0, k => Or.inl ⟨rfl, fun j h1 h2 => by omega⟩
  | n + 1, k => by
    simp only [fstB]
    cases h : f k
    · rw [if_neg (by simp)]
      rcases fstB_spec (f := f) n (k + 1) with ⟨h1, h2⟩ | ⟨j, h1, h2, h3, h4, h5⟩
      · refine Or.inl ⟨h1, fun j h3 h4 => ?_⟩
        by_cases q : j = k
        · rw [q]; exact h
        · exact h2 j (by omega) (by omega)
      · refine Or.inr ⟨j, h1, by omega, by omega, h4, fun i h6 h7 => ?_⟩
        by_cases q : i = k
        · rw [q]; exact h
        · exact h5 i (by omega) h7
    · exact Or.inr ⟨k, by simp, by omega, by omega, h, fun i h1 h2 => by omega⟩
theorem lstB_spec {f : Nat → Bool} : ∀ n, (lstB f n = -1 ∧ ∀ j, j < n → f j = false) ∨ ∃ j, lstB f n = nI j ∧ j < n ∧ f j = true ∧ ∀ i, j < i → i < n → f i = false
  | 0 => Or.inl ⟨rfl, fun j h => by omega⟩
  | n + 1 => by
    simp only [lstB]
    cases h : f n
    · rw [if_neg (by simp)]
      rcases lstB_spec (f := f) n with ⟨h1, h2⟩ | ⟨j, h1, h2, h3, h4⟩
      · refine Or.inl ⟨h1, fun j h3 => ?_⟩
        by_cases q : j = n
        · rw [q]; exact h
        · exact h2 j (by omega)
      · refine Or.inr ⟨j, h1, by omega, h3, fun i h5 h6 => ?_⟩
        by_cases q : i = n
        · rw [q]; exact h
        · exact h4 i h5 (by omega)
    · exact Or.inr ⟨n, by simp, by omega, h, fun i h1 h2 => by omega⟩
/-- the longest gap so far: l days from a on, between two days of work -/
def gapI (f : Nat → Bool) (k : Nat) (gF : Int32) (l : Nat) : Prop := l = 0 ∨ ∃ a, gF = nI a ∧ 1 ≤ a ∧ a + l < k ∧ f (a - 1) = true ∧ f (a + l) = true ∧ ∀ j, a ≤ j → j < a + l → f j = false
def lastI (f : Nat → Bool) (k : Nat) (la : Int32) : Prop := (la = -1 ∧ ∀ j, j < k → f j = false) ∨ ∃ b, b < k ∧ la = nI b ∧ f b = true ∧ ∀ j, b < j → j < k → f j = false
def dropI (D : Nat) (gF : Int32) (l : Nat) (lo da : Int32) : Prop := if D ≤ l then lo = nI l ∧ da = btw gF (gF + nI l) else lo = nI D - 1 ∧ da = 0
theorem nIsub {b k : Nat} (h : b < k) : nI k - nI b - 1 = nI (k - b - 1) := by
  rw [pk_sub (by omega), show k - b = (k - b - 1) + 1 by omega, nI_pred]
  rfl
theorem m1n {b : Nat} (h : b < 12) : ¬ nI b = -1 := fun q => m1_nI h q.symm
theorem gap_sim {f : Nat → Bool} {D : Nat} (hD : 1 ≤ D) (hD2 : D ≤ 12) : ∀ n k gF l la lo da, k + n = 12 → l ≤ 12 → gapI f k gF l → lastI f k la → dropI D gF l lo da →
    ∃ l', (gpG f n k gF (nI l) la).2 = nI l' ∧ l' ≤ 12 ∧ gapI f 12 (gpG f n k gF (nI l) la).1 l' ∧ dropI D (gpG f n k gF (nI l) la).1 l' (if D ≤ l' then nI l' else nI D - 1) (drG f n k lo da la)
  | 0, k, gF, l, la, lo, da, h, hl, hg, _, hd => by
    rw [show k = 12 by omega] at hg
    refine ⟨l, rfl, hl, hg, ?_⟩
    unfold dropI at hd ⊢
    simp only [gpG, drG]
    split at hd
    · rename_i q; rw [if_pos q, if_pos q]; exact ⟨rfl, hd.2⟩
    · rename_i q; rw [if_neg q, if_neg q]; exact ⟨rfl, hd.2⟩
  | n + 1, k, gF, l, la, lo, da, h, hl, hg, hla, hd => by
    have hg' : gapI f (k + 1) gF l := hg.imp id (fun ⟨a, h1, h2, h3, h4⟩ => ⟨a, h1, h2, by omega, h4⟩)
    simp only [gpG, drG]
    cases hf : f k
    · simp only [if_neg (show ¬ false = true by decide)]
      refine gap_sim hD hD2 n (k + 1) gF l la lo da (by omega) hl hg' ?_ hd
      rcases hla with ⟨e, q⟩ | ⟨b, hb, e, q, w⟩
      · refine Or.inl ⟨e, fun j hj => ?_⟩
        by_cases z : j = k
        · rw [z]; exact hf
        · exact q j (by omega)
      · refine Or.inr ⟨b, by omega, e, q, fun j h1 h2 => ?_⟩
        by_cases z : j = k
        · rw [z]; exact hf
        · exact w j h1 (by omega)
    · have hla' : lastI f (k + 1) (nI k) := Or.inr ⟨k, by omega, rfl, hf, fun j h1 h2 => by omega⟩
      simp only [if_true]
      rcases hla with ⟨rfl, q⟩ | ⟨b, hb, rfl, q, w⟩
      · simp only [if_true]
        exact gap_sim hD hD2 n (k + 1) gF l _ lo da (by omega) hl hg' hla' hd
      · simp only [m1n (show b < 12 by omega), if_false, nIsub hb]
        have e1 : (nI (k - b - 1) ≤ nI l) ↔ k - b - 1 ≤ l := nI_leI (by omega) (by omega)
        have hnew : k - b - 1 ≠ 0 → gapI f (k + 1) (nI b + 1) (k - b - 1) := fun hz => Or.inr ⟨b + 1, by rw [nI_1], by omega, by omega, by simpa using q, by rw [show b + 1 + (k - b - 1) = k by omega]; exact hf, fun j h1 h2 => w j (by omega) (by omega)⟩
        have ebt : btw (nI b + 1) (nI b + 1 + nI (k - b - 1)) = btw (nI b + 1) (nI k) := by rw [nI_1, nI_add, show b + 1 + (k - b - 1) = k by omega]
        unfold dropI at hd
        by_cases hDl : D ≤ l
        · rw [if_pos hDl] at hd
          obtain ⟨rfl, rfl⟩ := hd
          by_cases q1 : k - b - 1 ≤ l
          · rw [if_pos (e1.mpr q1), if_pos (e1.mpr q1)]
            exact gap_sim hD hD2 n (k + 1) gF l _ _ _ (by omega) hl hg' hla' (by unfold dropI; rw [if_pos hDl]; exact ⟨rfl, rfl⟩)
          · rw [if_neg (fun z => q1 (e1.mp z)), if_neg (fun z => q1 (e1.mp z))]
            refine gap_sim hD hD2 n (k + 1) (nI b + 1) (k - b - 1) _ _ _ (by omega) (by omega) (hnew (by omega)) hla' ?_
            unfold dropI
            rw [if_pos (by omega)]
            exact ⟨rfl, ebt.symm⟩
        · rw [if_neg hDl] at hd
          obtain ⟨rfl, rfl⟩ := hd
          have eD : nI D - 1 = nI (D - 1) := by rw [show D = (D - 1) + 1 by omega, nI_pred]; rfl
          have e2 : (nI (k - b - 1) ≤ nI D - 1) ↔ k - b - 1 ≤ D - 1 := by rw [eD]; exact nI_leI (by omega) (by omega)
          by_cases q1 : k - b - 1 ≤ l
          · rw [if_pos (e1.mpr q1), if_pos (e2.mpr (by omega))]
            exact gap_sim hD hD2 n (k + 1) gF l _ _ _ (by omega) hl hg' hla' (by unfold dropI; rw [if_neg hDl]; exact ⟨rfl, rfl⟩)
          · rw [if_neg (fun z => q1 (e1.mp z))]
            by_cases q2 : k - b - 1 ≤ D - 1
            · rw [if_pos (e2.mpr q2)]
              refine gap_sim hD hD2 n (k + 1) (nI b + 1) (k - b - 1) _ _ _ (by omega) (by omega) (hnew (by omega)) hla' ?_
              unfold dropI
              rw [if_neg (by omega)]
              exact ⟨rfl, rfl⟩
            · rw [if_neg (fun z => q2 (e2.mp z))]
              refine gap_sim hD hD2 n (k + 1) (nI b + 1) (k - b - 1) _ _ _ (by omega) (by omega) (hnew (by omega)) hla' ?_
              unfold dropI
              rw [if_pos (by omega)]
              exact ⟨rfl, ebt.symm⟩
theorem btw_bits {a l : Nat} (h : a + l ≤ 12) {j : Nat} (hj : j < 32) : bt (btw (nI a) (nI (a + l))) j = (decide (a ≤ j) && decide (j < a + l)) := by
  have : ∀ a, a < 13 → ∀ l, l < 13 → a + l ≤ 12 → ∀ j, j < 32 → bt (btw (nI a) (nI (a + l))) j = (decide (a ≤ j) && decide (j < a + l)) := by decide +kernel
  exact this a (by omega) l (by omega) h j hj
/-- what the gap is in the end -/
theorem gap_end (f : Nat → Bool) {D : Nat} (hD : 1 ≤ D) (hD2 : D ≤ 12) : ∃ l, (gpB f).2 = nI l ∧ l ≤ 12 ∧ gapI f 12 (gpB f).1 l ∧ (if D ≤ l then drB f (nI D) = btw (gpB f).1 ((gpB f).1 + nI l) else drB f (nI D) = 0) := by
  obtain ⟨l, h1, h2, h3, h4⟩ := gap_sim (f := f) hD hD2 12 0 (-1) 0 (-1) (nI D - 1) 0 rfl (by omega) (Or.inl rfl) (Or.inl ⟨rfl, fun j hj => by omega⟩) (by unfold dropI; rw [if_neg (by omega)]; exact ⟨rfl, rfl⟩)
  refine ⟨l, h1, h2, h3, ?_⟩
  unfold dropI at h4
  split at h4
  · rename_i q; rw [if_pos q]; exact h4.2
  · rename_i q; rw [if_neg q]; exact h4.2
theorem inFL_iff {f : Nat → Bool} {k : Nat} (hk : k < 12) : inFL f k = true ↔ (∃ i, i ≤ k ∧ f i = true) ∧ ∃ j, k ≤ j ∧ j < 12 ∧ f j = true := by
  unfold inFL
  rw [Bool.and_eq_true, decide_eq_true_iff, decide_eq_true_iff, ct_pos, ct_lt (by omega)]
  constructor
  · rintro ⟨⟨i, h1, h2⟩, j, h3⟩
    exact ⟨⟨i, by omega, h2⟩, j, h3⟩
  · rintro ⟨⟨i, h1, h2⟩, j, h3⟩
    exact ⟨⟨i, by omega, h2⟩, j, h3⟩
/-- THE STATUS, in the class's words -/
theorem st_eq (f : Nat → Bool) {D : Nat} (hD : 1 ≤ D) (hD2 : D ≤ 12) {k : Nat} (hk : k < 12) : stM f (gpB f).1 (gpB f).2 (nI D) k = (if f k then 1 else if bt (drB f (nI D)) k then 3 else if inFL f k then 2 else 0) ∧ (bt (drB f (nI D)) k = true → inFL f k = true ∧ f k = false) := by
  obtain ⟨l, h1, h2, h3, h4⟩ := gap_end f hD hD2
  have hdr : bt (drB f (nI D)) k = true ↔ D ≤ l ∧ ∃ a, (gpB f).1 = nI a ∧ 1 ≤ a ∧ a + l < 12 ∧ f (a - 1) = true ∧ f (a + l) = true ∧ (∀ j, a ≤ j → j < a + l → f j = false) ∧ a ≤ k ∧ k < a + l := by
    by_cases q : D ≤ l
    · rw [if_pos q] at h4
      rcases h3 with rfl | ⟨a, g1, g2, g3, g4, g5, g6⟩
      · omega
      · rw [h4, g1, nI_add, btw_bits (by omega) (by omega)]
        simp only [Bool.and_eq_true, decide_eq_true_iff]
        constructor
        · rintro ⟨w1, w2⟩; exact ⟨q, a, rfl, g2, g3, g4, g5, g6, w1, w2⟩
        · rintro ⟨_, a', w0, _, _, _, _, _, w1, w2⟩
          have : a = a' := (nI_eq (by omega) (by omega)).mp w0
          subst this; exact ⟨w1, w2⟩
    · rw [if_neg q] at h4
      rw [h4, bt_zero]
      constructor
      · intro z; cases z
      · rintro ⟨z, _⟩; exact absurd z q
  refine ⟨?_, fun hb => ?_⟩
  · unfold stM
    cases hf : f k
    · simp only [if_neg (show ¬ false = true by decide)]
      rw [h1]
      rcases fstB_spec (f := f) 12 0 with ⟨e1, w1⟩ | ⟨i, e1, i1, i2, i3, i4⟩
      · rw [e1, if_pos rfl]
        have n1 : ¬ bt (drB f (nI D)) k = true := fun z => by
          obtain ⟨-, a, -, a1, a2, a3, -⟩ := hdr.mp z
          rw [w1 (a - 1) (by omega) (by omega)] at a3; cases a3
        have n2 : ¬ inFL f k = true := fun z => by
          obtain ⟨⟨i, i1, i2⟩, -⟩ := (inFL_iff hk).mp z
          rw [w1 i (by omega) (by omega)] at i2; cases i2
        rw [if_neg n1, if_neg n2]
      · rw [e1, if_neg (m1n (by omega))]
        by_cases q1 : k < i
        · rw [if_pos (nI_lt q1 (by omega))]
          have n2 : ¬ inFL f k = true := fun z => by
            obtain ⟨⟨i', j1, j2⟩, -⟩ := (inFL_iff hk).mp z
            rw [i4 i' (by omega) (by omega)] at j2; cases j2
          have n1 : ¬ bt (drB f (nI D)) k = true := fun z => by
            obtain ⟨-, a, -, a1, a2, a3, a4, a5, a6, a7⟩ := hdr.mp z
            rw [i4 (a - 1) (by omega) (by omega)] at a3; cases a3
          rw [if_neg n1, if_neg n2]
        · rw [if_neg (nI_nlt (by omega) (by omega))]
          rcases lstB_spec (f := f) 12 with ⟨e2, w2⟩ | ⟨j, e2, j1, j2, j3⟩
          · rw [w2 i (by omega)] at i3; cases i3
          · rw [e2]
            by_cases q2 : k ≤ j
            · rw [if_neg (fun z => z (nI_le q2 (by omega)))]
              have y2 : inFL f k = true := (inFL_iff hk).mpr ⟨⟨i, by omega, i3⟩, j, q2, j1, j2⟩
              rw [if_pos y2]
              by_cases q3 : D ≤ l
              · rw [if_neg (nI_nlt q3 (by omega))]
                rcases h3 with rfl | ⟨a, g1, g2, g3, g4, g5, g6⟩
                · omega
                · rw [g1, nI_add]
                  by_cases q4 : k < a
                  · rw [if_pos (nI_lt q4 (by omega)), if_neg]
                    intro z
                    obtain ⟨-, a', w0, -, -, -, -, -, w1, w2⟩ := hdr.mp z
                    have : a = a' := (nI_eq (by omega) (by omega)).mp (g1.symm.trans w0)
                    omega
                  · rw [if_neg (nI_nlt (by omega) (by omega))]
                    by_cases q5 : a + l ≤ k
                    · rw [if_pos (nI_le q5 (by omega)), if_neg]
                      intro z
                      obtain ⟨-, a', w0, -, -, -, -, -, w1, w2⟩ := hdr.mp z
                      have : a = a' := (nI_eq (by omega) (by omega)).mp (g1.symm.trans w0)
                      omega
                    · rw [if_neg (nI_ge (by omega) (by omega)), if_pos]
                      exact hdr.mpr ⟨q3, a, g1, g2, g3, g4, g5, g6, by omega, by omega⟩
              · rw [if_pos (nI_lt (by omega) (by omega)), if_neg]
                intro z
                exact q3 (hdr.mp z).1
            · rw [if_pos (nI_ge (by omega) (by omega))]
              have n2 : ¬ inFL f k = true := fun z => by
                obtain ⟨-, j', w1, w2, w3⟩ := (inFL_iff hk).mp z
                by_cases z2 : j' = j
                · omega
                · rw [j3 j' (by omega) w2] at w3; cases w3
              have n1 : ¬ bt (drB f (nI D)) k = true := fun z => by
                obtain ⟨-, a, -, a1, a2, a3, a4, a5, a6, a7⟩ := hdr.mp z
                rw [j3 (a + l) (by omega) (by omega)] at a4; cases a4
              rw [if_neg n1, if_neg n2]
    · simp
  · obtain ⟨-, a, -, a1, a2, a3, a4, a5, a6, a7⟩ := hdr.mp hb
    exact ⟨(inFL_iff hk).mpr ⟨⟨a - 1, by omega, a3⟩, a + l, by omega, by omega, a4⟩, a5 k a6 a7⟩
theorem ds_work (f : Nat → Bool) {D : Nat} (hD : 1 ≤ D) (hD2 : D ≤ 12) : dsM f (nI D) 1 = nI (ct f 12) := by
  unfold dsM
  rw [ct_congr]
  intro k hk
  rw [(st_eq f hD hD2 hk).1]
  cases f k <;> cases bt (drB f (nI D)) k <;> cases inFL f k <;> decide
theorem ds_held (f : Nat → Bool) {D : Nat} (hD : 1 ≤ D) (hD2 : D ≤ 12) : dsM f (nI D) 2 = nI (ct (heB f (nI D)) 12) := by
  unfold dsM
  rw [ct_congr]
  intro k hk
  rw [(st_eq f hD hD2 hk).1]
  unfold heB
  cases f k <;> cases bt (drB f (nI D)) k <;> cases inFL f k <;> decide
theorem ds_drop (f : Nat → Bool) {D : Nat} (hD : 1 ≤ D) (hD2 : D ≤ 12) : dsM f (nI D) 3 = nI (ct (bt (drB f (nI D))) 12) := by
  unfold dsM
  rw [ct_congr]
  intro k hk
  obtain ⟨h1, h2⟩ := st_eq f hD hD2 hk
  rw [h1]
  cases hb : bt (drB f (nI D)) k
  · cases f k <;> cases inFL f k <;> decide
  · obtain ⟨h3, h4⟩ := h2 hb
    rw [h3, h4]; decide
theorem ct_not (f : Nat → Bool) : ∀ n, ct (fun k => !f k) n + ct f n = n
  | 0 => rfl
  | n + 1 => by
    have := ct_not f n
    simp only [ct]
    by_cases h : f n = true
    · simp [h]; omega
    · simp [h]; omega
theorem ds_off (f : Nat → Bool) {D : Nat} (hD : 1 ≤ D) (hD2 : D ≤ 12) : dsM f (nI D) 0 = nI 12 - nI (ct (inFL f) 12) := by
  have hc := ct_not (inFL f) 12
  rw [pk_sub (by omega), show 12 - ct (inFL f) 12 = ct (fun k => !inFL f k) 12 by omega]
  unfold dsM
  rw [ct_congr]
  intro k hk
  obtain ⟨h1, h2⟩ := st_eq f hD hD2 hk
  rw [h1]
  cases hb : bt (drB f (nI D)) k
  · cases hf : f k
    · cases inFL f k <;> decide
    · rw [(inFL_iff hk).mpr ⟨⟨k, by omega, hf⟩, k, by omega, hk, hf⟩]; decide
  · obtain ⟨h3, h4⟩ := h2 hb
    rw [h3, h4]; decide
theorem pr_eq (fee hold : Int32) (f : Nat → Bool) {D : Nat} (hD : 1 ≤ D) (hD2 : D ≤ 12) : prM fee hold (nI D) f = pyF fee hold (nI D) f ∧ heM fee hold (nI D) f = hoF fee hold (nI D) f := by
  have h2 : heM fee hold (nI D) f = hoF fee hold (nI D) f := by
    unfold heM hoF
    rw [ds_held f hD hD2, Int32.mul_comm]
  refine ⟨?_, h2⟩
  unfold prM pyF
  rw [h2, ds_work f hD hD2, Int32.mul_comm]
theorem mv_eq {sc lo pl : Nat → Int32} (h : ∀ e, e < 12 → (sc e = 0 ↔ pl e = -1) ∧ lo e = pl e) : ∀ n k be la c, k + n = 12 → (be = none ∧ la = -1 ∨ ∃ b, b < 12 ∧ be = some b ∧ la = pl b ∧ ¬ pl b = -1) → mvG sc lo n k be c = mvM pl n k la c
  | 0, _, _, _, _, _, _ => rfl
  | n + 1, k, be, la, c, hk, hb => by
    obtain ⟨h1, h2⟩ := h k (by omega)
    simp only [mvG, mvM]
    by_cases q : pl k = -1
    · rw [if_pos q, if_pos (h1.mpr q)]
      exact mv_eq h n (k + 1) be la c (by omega) hb
    · rw [if_neg q, if_neg (fun z => q (h1.mp z))]
      have e : mvC lo k c be = (if la = -1 then c else if pl k = la then c else c + 1) := by
        rcases hb with ⟨rfl, rfl⟩ | ⟨b, b1, rfl, rfl, b2⟩
        · simp [mvC]
        · rw [if_neg b2]
          simp only [mvC, h2, (h b b1).2]
          by_cases z : pl b = pl k
          · rw [if_pos z, if_pos z.symm]
          · rw [if_neg z, if_neg (fun w => z w.symm)]
      rw [e]
      exact mv_eq h n (k + 1) (some k) (pl k) _ (by omega) (Or.inr ⟨k, by omega, rfl, rfl, q⟩)
theorem rt_eq {sc lo pl ra : Nat → Int32} (h : ∀ e, e < 12 → (sc e = 0 ↔ pl e = -1) ∧ lo e = pl e) : ∀ n k s, k + n = 12 → rtF sc lo ra n k s = rtM pl ra n k s
  | 0, _, _, _ => rfl
  | n + 1, k, s, hk => by
    obtain ⟨h1, h2⟩ := h k (by omega)
    simp only [rtF, rtM]
    by_cases q : pl k = -1
    · rw [if_pos q, if_pos (h1.mpr q)]; exact rt_eq h n (k + 1) s (by omega)
    · rw [if_neg q, if_neg (fun z => q (h1.mp z)), h2]; exact rt_eq h n (k + 1) _ (by omega)
theorem paF_congr {p q : Nat → Int32} : ∀ n k s, (∀ a, a < k + n → p a = q a) → paF p n k s = paF q n k s
  | 0, _, _, _ => rfl
  | n + 1, k, s, h => by simp only [paF]; rw [h k (by omega)]; exact paF_congr n (k + 1) _ (fun a ha => h a (by omega))
/-- COSTS ARE THE SAME -/
theorem co_cm {sc lo pl cs cs' ra ra' fe fe' : Nat → Int32} {nA : Nat} {mv ho : Int32} {D : Nat} (hD : 1 ≤ D) (hD2 : D ≤ 12) (h : ∀ e, e < 12 → (sc e = 0 ↔ pl e = -1) ∧ lo e = pl e) (hc : ∀ e, e < 12 → cs e = cs' e) (hr : ∀ e, e < 12 → ¬ pl e = -1 → ra (pl e).toNatClampNeg = ra' (pl e).toNatClampNeg) (hf : ∀ a, a < nA → fe a = fe' a) : coF sc lo cs ra fe nA mv ho (nI D) = cmM pl cs' ra' fe' nA mv ho (nI D) := by
  have hrt : ∀ n k s, k + n = 12 → rtM pl ra n k s = rtM pl ra' n k s := by
    intro n
    induction n with
    | zero => intro k s _; rfl
    | succ n ih =>
      intro k s hk
      simp only [rtM]
      by_cases q : pl k = -1
      · rw [if_pos q, if_pos q]; exact ih (k + 1) s (by omega)
      · rw [if_neg q, if_neg q, hr k (by omega) q]; exact ih (k + 1) _ (by omega)
  unfold coF cmM
  rw [mv_eq h 12 0 none (-1) 0 rfl (Or.inl ⟨rfl, rfl⟩), rt_eq h 12 0 _ rfl, hrt 12 0 _ rfl]
  refine paF_congr nA 0 _ (fun a ha => ?_)
  rw [hf a (by omega), (pr_eq (fe' a) ho (wkF cs' a) hD hD2).1]
  unfold pyF
  rw [hoF_congr (h := wkF cs' a) (fun k hk => by simp only [wkF, hc k hk]), ct_congr (h := wkF cs' a) (fun k hk => by simp only [wkF, hc k hk])]
