/-! ===== reasons: both sides alike ===== -/
theorem rsM_iff {ni cs : Nat → Int32} : ∀ n k, rsM ni cs n k = true ↔ ∀ j, k ≤ j → j < k + n → ¬ (ni j = 1 ∧ ¬ ni (j + 1) = 1 ∧ ¬ cs j &&& cs (j + 1) = 0)
  | 0, k => by simp [rsM]; intro j h1 h2; omega
  | n + 1, k => by
    simp only [rsM]
    by_cases h : ni k = 1 ∧ ¬ ni (k + 1) = 1 ∧ ¬ cs k &&& cs (k + 1) = 0
    · rw [if_pos h]
      constructor
      · intro q; cases q
      · intro q; exact absurd h (q k (by omega) (by omega))
    · rw [if_neg h, rsM_iff n (k + 1)]
      constructor
      · intro q j h1 h2
        by_cases e : j = k
        · rw [e]; exact h
        · exact q j (by omega) (by omega)
      · intro q j h1 h2
        exact q j (by omega) (by omega)
theorem brF_iff {ni cs : Nat → Int32} : ∀ n k, brF ni cs n k = false ↔ ∀ j, k ≤ j → j < k + n → ¬ (¬ ni j = 0 ∧ ni (j + 1) = 0 ∧ ¬ cs j &&& cs (j + 1) = 0)
  | 0, k => by simp [brF]; intro j h1 h2; omega
  | n + 1, k => by
    simp only [brF]
    by_cases h : clF ni cs k (k + 1) = true
    · rw [if_pos h]
      constructor
      · intro q; cases q
      · intro q
        refine absurd ?_ (q k (by omega) (by omega))
        simpa [clF, and_assoc] using h
    · rw [if_neg h, brF_iff n (k + 1)]
      constructor
      · intro q j h1 h2
        by_cases e : j = k
        · rw [e]
          intro z
          exact h (by simpa [clF, and_assoc] using z)
        · exact q j (by omega) (by omega)
      · intro q j h1 h2
        exact q j (by omega) (by omega)
/-- times are 0 or 1 -/
def b01 (f : Nat → Int32) (n : Nat) : Prop := ∀ k, k < n → f k = 0 ∨ f k = 1
theorem pnF01 {dy ni : Nat → Int32} {n e : Nat} (h : b01 ni n) : pnF dy ni n e = 0 ∨ pnF dy ni n e = 1 := by
  unfold pnF
  cases q : anF dy e n 0 with
  | none => exact Or.inl rfl
  | some k => exact h k (anF_some q).1
theorem rs_br {dy ni : Nat → Int32} {n : Nat} {cs : Nat → Int32} (h : b01 ni n) : rsM (pnF dy ni n) cs 11 0 = !brF (pnF dy ni n) cs 11 0 := by
  have key : rsM (pnF dy ni n) cs 11 0 = true ↔ brF (pnF dy ni n) cs 11 0 = false := by
    rw [rsM_iff, brF_iff]
    have e : ∀ j, (pnF dy ni n j = 1) = ¬ (pnF dy ni n j = 0) := by
      intro j
      rcases pnF01 (dy := dy) (e := j) h with q | q <;> rw [q] <;> simp
    simp only [e, Decidable.not_not]
  cases h1 : rsM (pnF dy ni n) cs 11 0 <;> cases h2 : brF (pnF dy ni n) cs 11 0 <;> simp_all
/-- the schedule keeps the turnarounds -/
def rested (dy ni ca : Nat → Int32) (n : Nat) : Prop := ∀ j, j < 11 → ¬ (¬ pnF dy ni n j = 0 ∧ pnF dy ni n (j + 1) = 0 ∧ ¬ caF dy ca j n &&& caF dy ca (j + 1) n = 0)
theorem rested_iff {dy ni ca : Nat → Int32} {n : Nat} (h : b01 ni n) : rsM (pnF dy ni n) (fun f => caF dy ca f n) 11 0 = true ↔ rested dy ni ca n := by
  rw [rs_br h]
  constructor
  · intro q j hj
    have := (brF_iff 11 0).mp (show brF (pnF dy ni n) (fun f => caF dy ca f n) 11 0 = false by simpa using q)
    exact this j (by omega) (by omega)
  · intro q
    have := (brF_iff (ni := pnF dy ni n) (cs := fun f => caF dy ca f n) 11 0).mpr (fun j _ hj => q j (by omega))
    simpa using this
theorem caF_no {dy ca : Nat → Int32} {e : Nat} : ∀ {n : Nat}, (∀ k, k < n → ¬ dy k = nI e) → caF dy ca e n = 0
  | 0, _ => rfl
  | n + 1, h => by simp only [caF]; rw [if_neg (h n (by omega)), caF_no (fun k hk => h k (by omega))]
/-- bits of a smaller cast -/
theorem caF_sub {dy ca : Nat → Int32} {k e : Nat} (he : e < 12) : ∀ n i, bt (caF (dyA dy k (-1)) ca e n) i = true → bt (caF dy ca e n) i = true
  | 0, i, h => by simpa [caF] using h
  | n + 1, i, h => by
    simp only [caF] at h ⊢
    by_cases q : n = k
    · subst q
      rw [dyA_at, if_neg (m1_nI he)] at h
      have := caF_sub he n i h
      split
      · rw [bt_or, this]; rfl
      · exact this
    · rw [dyA_ne q] at h
      by_cases w : dy n = nI e
      · rw [if_pos w] at h ⊢
        rw [bt_or] at h ⊢
        cases h1 : bt (caF (dyA dy k (-1)) ca e n) i
        · rw [h1, Bool.false_or] at h; rw [h, Bool.or_true]
        · rw [caF_sub he n i h1]; rfl
      · rw [if_neg w] at h ⊢
        exact caF_sub he n i h
theorem and_ne {x y : Int32} : ¬ x &&& y = 0 ↔ ∃ i, i < 32 ∧ bt x i = true ∧ bt y i = true := by
  rw [bt_eq0]
  constructor
  · intro h
    apply Classical.byContradiction
    intro q
    apply h
    intro k hk
    rw [bt_and]
    cases h1 : bt x k <;> cases h2 : bt y k <;> simp
    exact q ⟨k, hk, h1, h2⟩
  · rintro ⟨i, hi, h1, h2⟩ h
    have := h i hi
    rw [bt_and, h1, h2] at this
    cases this
/-- without one scene the turnarounds are kept too -/
theorem rested.off {dy lo ni ca : Nat → Int32} {n k : Nat} (hc : cons dy lo ni n) (h : rested dy ni ca n) : rested (dyA dy k (-1)) ni ca n := by
  intro j hj ⟨h1, h2, h3⟩
  obtain ⟨i, hi, b1, b2⟩ := and_ne.mp h3
  have c1 := caF_sub (dy := dy) (ca := ca) (k := k) (show j < 12 by omega) n i b1
  have c2 := caF_sub (dy := dy) (ca := ca) (k := k) (show j + 1 < 12 by omega) n i b2
  have hco := hc.off (k := k)
  have get : ∀ f, f < 12 → bt (caF (dyA dy k (-1)) ca f n) i = true → pnF dy ni n f = pnF (dyA dy k (-1)) ni n f := by
    intro f hf hb
    have : ∃ q, q < n ∧ dyA dy k (-1) q = nI f := by
      apply Classical.byContradiction
      intro z
      rw [caF_no (fun q hq e => z ⟨q, hq, e⟩), bt_zero] at hb
      cases hb
    obtain ⟨q, hq, e⟩ := this
    have hqk : q ≠ k := fun z => by rw [z, dyA_at] at e; exact m1_nI hf e
    rw [(plF_of hco hf hq e).2]
    rw [dyA_ne hqk] at e
    rw [(plF_of hc hf hq e).2]
  refine h j hj ⟨?_, ?_, and_ne.mpr ⟨i, hi, c1, c2⟩⟩
  · rw [get j (by omega) b1]; exact h1
  · rw [get (j + 1) (by omega) b2]; exact h2
theorem and_or_ne {x y z : Int32} : (¬ (x ||| y) &&& z = 0) ↔ (¬ x &&& z = 0) ∨ ¬ y &&& z = 0 := by
  simp only [and_ne, bt_or]
  constructor
  · rintro ⟨i, hi, h1, h2⟩
    cases q : bt x i
    · rw [q, Bool.false_or] at h1; exact Or.inr ⟨i, hi, h1, h2⟩
    · exact Or.inl ⟨i, hi, q, h2⟩
  · rintro (⟨i, hi, h1, h2⟩ | ⟨i, hi, h1, h2⟩)
    · exact ⟨i, hi, by rw [h1]; rfl, h2⟩
    · exact ⟨i, hi, by rw [h1, Bool.or_true], h2⟩
theorem and_comm32 (x y : Int32) : x &&& y = y &&& x := by
  apply bt_ext
  intro k _
  rw [bt_and, bt_and, Bool.and_comm]
/-- the two ways to see a broken turnaround -/
theorem wb_rested {dy lo ni ca : Nat → Int32} {n k e : Nat} (hn : n ≤ 14) (hk : k < n) (he : e < 12) (h01 : b01 ni n) (hc : cons (dyA dy k (nI e)) lo ni n) (hr : rested (dyA dy k (-1)) ni ca n) :
    wbF (fun f => niF (dyA dy k (-1)) ni f n) (fun f => caF (dyA dy k (-1)) ca f n) (ni k) (ca k) e = false ↔ rested (dyA dy k (nI e)) ni ca n := by
  have hoff : cons (dyA dy k (-1)) lo ni n := by
    intro i j f hi hj hf h1 h2
    have g1 : i ≠ k := fun q => by rw [q, dyA_at] at h1; exact m1_nI hf h1
    have g2 : j ≠ k := fun q => by rw [q, dyA_at] at h2; exact m1_nI hf h2
    rw [dyA_ne g1] at h1
    rw [dyA_ne g2] at h2
    exact hc i j f hi hj hf (by rw [dyA_ne g1]; exact h1) (by rw [dyA_ne g2]; exact h2)
  have pe : pnF (dyA dy k (nI e)) ni n e = ni k := (plF_of hc he hk dyA_at).2
  have po : ∀ f, f < 12 → f ≠ e → pnF (dyA dy k (nI e)) ni n f = pnF (dyA dy k (-1)) ni n f := by
    intro f hf hfe
    unfold pnF
    rw [anF_iff (dy' := dyA dy k (-1)) (fun j _ => by
      by_cases z : j = k
      · subst z
        rw [dyA_at, dyA_at]
        exact ⟨fun h => absurd ((nI_eq (by omega) (by omega)).mp h).symm hfe, fun h => absurd h (m1_nI hf)⟩
      · rw [dyA_ne z, dyA_ne z])]
  have ce : caF (dyA dy k (nI e)) ca e n = caF (dyA dy k (-1)) ca e n ||| ca k := by rw [caF_add he he n, if_pos ⟨hk, rfl⟩]
  have co : ∀ f, f < 12 → f ≠ e → caF (dyA dy k (nI e)) ca f n = caF (dyA dy k (-1)) ca f n := by
    intro f hf hfe
    rw [caF_add he hf n, if_neg (fun z => hfe z.2.symm)]
  have nn : ∀ f, f < 12 → niF (dyA dy k (-1)) ni f n = pnF (dyA dy k (-1)) ni n f := fun f hf => (loF_pl hoff hf).2
  -- on day e itself, who was there before had the scene's own time
  have old : ¬ caF (dyA dy k (-1)) ca e n = 0 → pnF (dyA dy k (-1)) ni n e = ni k := by
    intro h
    have : ∃ q, q < n ∧ dyA dy k (-1) q = nI e := by
      apply Classical.byContradiction
      intro z
      exact h (caF_no (fun q hq w => z ⟨q, hq, w⟩))
    obtain ⟨q, hq, w⟩ := this
    have hqk : q ≠ k := fun z => by rw [z, dyA_at] at w; exact m1_nI he w
    rw [(plF_of hoff he hq w).2]
    rw [dyA_ne hqk] at w
    exact (hc q k e hq hk he (by rw [dyA_ne hqk]; exact w) dyA_at).2
  have nz : ∀ {x y : Int32}, ¬ x &&& y = 0 → ¬ x = 0 := fun {x y} h q => h (by rw [q]; simp)
  unfold wbF
  by_cases h0 : ni k = 0
  · rw [if_pos h0]
    constructor
    · intro hw j hj ⟨g1, g2, g3⟩
      by_cases q1 : j = e
      · subst q1; rw [pe] at g1; exact g1 h0
      · rw [po j (by omega) q1] at g1
        rw [co j (by omega) q1] at g3
        by_cases q2 : j + 1 = e
        · subst q2
          rw [ce, and_comm32] at g3
          rcases and_or_ne.mp g3 with z | z
          · rw [and_comm32] at z
            refine hr j hj ⟨g1, ?_, z⟩
            rw [old (fun w => z (by rw [w]; simp)), h0]
          · rw [and_comm32] at z
            have : ¬ niF (dyA dy k (-1)) ni j n = 0 := by rw [nn j (by omega)]; exact g1
            simp [this, z] at hw
        · rw [po (j + 1) (by omega) q2] at g2
          rw [co (j + 1) (by omega) q2] at g3
          exact hr j hj ⟨g1, g2, g3⟩
    · intro hR
      cases e with
      | zero => simp
      | succ e' =>
        simp only [Nat.add_sub_cancel]
        by_cases g1 : niF (dyA dy k (-1)) ni e' n = 0
        · simp [g1]
        · by_cases g3 : caF (dyA dy k (-1)) ca e' n &&& ca k = 0
          · simp [g3]
          · exfalso
            refine hR e' (by omega) ⟨?_, ?_, ?_⟩
            · rw [po e' (by omega) (by omega), ← nn e' (by omega)]; exact g1
            · rw [pe]; exact h0
            · rw [ce, co e' (by omega) (by omega), and_comm32]
              refine and_or_ne.mpr (Or.inr ?_)
              rw [and_comm32]; exact g3
  · rw [if_neg h0]
    constructor
    · intro hw j hj ⟨g1, g2, g3⟩
      by_cases q1 : j = e
      · subst q1
        rw [co (j + 1) (by omega) (by omega)] at g3
        rw [po (j + 1) (by omega) (by omega)] at g2
        rw [ce] at g3
        rcases and_or_ne.mp g3 with z | z
        · refine hr j hj ⟨?_, g2, z⟩
          rw [old (nz z)]; exact h0
        · rw [and_comm32] at z
          have : niF (dyA dy k (-1)) ni (j + 1) n = 0 := by rw [nn (j + 1) (by omega)]; exact g2
          simp [this, z, show j + 1 < 12 by omega] at hw
      · rw [po j (by omega) q1] at g1
        rw [co j (by omega) q1] at g3
        by_cases q2 : j + 1 = e
        · subst q2; rw [pe] at g2; exact h0 g2
        · rw [po (j + 1) (by omega) q2] at g2
          rw [co (j + 1) (by omega) q2] at g3
          exact hr j hj ⟨g1, g2, g3⟩
    · intro hR
      by_cases h11 : e + 1 < 12
      · by_cases g1 : niF (dyA dy k (-1)) ni (e + 1) n = 0
        · by_cases g3 : caF (dyA dy k (-1)) ca (e + 1) n &&& ca k = 0
          · simp [g3]
          · exfalso
            refine hR e (by omega) ⟨?_, ?_, ?_⟩
            · rw [pe]; exact h0
            · rw [po (e + 1) (by omega) (by omega), ← nn (e + 1) (by omega)]; exact g1
            · rw [ce, co (e + 1) (by omega) (by omega)]
              refine and_or_ne.mpr (Or.inr ?_)
              rw [and_comm32]; exact g3
        · simp [g1]
      · simp [h11]
/-- THE REASONS ARE THE SAME -/
theorem re_rm {dy lo ni le ca : Nat → Int32} {cap : Int32} {n k e : Nat} (hn : n ≤ 14) (hk : k < n) (he : e < 12) (h01 : b01 ni n) (hc : cons dy lo ni n) (hr : rested dy ni ca n) : reF lo ni le ca cap (dyA dy k (-1)) n k e = rmF lo ni le ca cap dy n k e := by
  have hco := hc.off (k := k)
  obtain ⟨p1, p2⟩ := loF_pl hco he
  unfold reF rsF rmF
  simp only [scF_an hn, p1, p2]
  by_cases q1 : ¬ anF (dyA dy k (-1)) e n 0 = none ∧ ¬ plF (dyA dy k (-1)) lo n e = lo k
  · rw [if_pos q1, if_pos q1]
  · rw [if_neg q1, if_neg q1]
    by_cases q2 : ¬ anF (dyA dy k (-1)) e n 0 = none ∧ ¬ pnF (dyA dy k (-1)) ni n e = ni k
    · rw [if_pos q2, if_pos q2]
    · rw [if_neg q2, if_neg q2]
      by_cases q3 : ¬ leF (dyA dy k (-1)) le e n + le k ≤ cap
      · rw [if_pos q3, if_pos q3]
      · rw [if_neg q3, if_neg q3]
        have hcm : cons (dyA dy k (nI e)) lo ni n := by
          intro i j f hi hj hf h1 h2
          have key : ∀ j, j < n → j ≠ k → dy j = nI e → lo k = lo j ∧ ni k = ni j := by
            intro j hj hjk hd
            have hz : ¬ anF (dyA dy k (-1)) e n 0 = none := fun z => anF_none.mp z j hj (by rw [dyA_ne hjk]; exact hd)
            obtain ⟨p3, p4⟩ := plF_of hco he hj (by rw [dyA_ne hjk]; exact hd)
            refine ⟨?_, ?_⟩
            · rw [← p3]; exact (Decidable.byContradiction fun w => q1 ⟨hz, fun y => w y.symm⟩)
            · rw [← p4]; exact (Decidable.byContradiction fun w => q2 ⟨hz, fun y => w y.symm⟩)
          by_cases z1 : i = k
          · by_cases z2 : j = k
            · rw [z1, z2]; exact ⟨rfl, rfl⟩
            · rw [z1, dyA_at] at h1
              rw [dyA_ne z2, ← h1] at h2
              rw [z1]
              exact key j hj z2 h2
          · by_cases z2 : j = k
            · rw [z2, dyA_at] at h2
              rw [dyA_ne z1, ← h2] at h1
              rw [z2]
              obtain ⟨a, b⟩ := key i hi z1 h1
              exact ⟨a.symm, b.symm⟩
            · rw [dyA_ne z1] at h1
              rw [dyA_ne z2] at h2
              exact hc i j f hi hj hf h1 h2
        have h1 := wb_rested hn hk he h01 hcm (hr.off hc)
        rw [← rested_iff h01] at h1
        cases w : wbF (fun e => niF (dyA dy k (-1)) ni e n) (fun e => caF (dyA dy k (-1)) ca e n) (ni k) (ca k) e
        · rw [h1.mp w]; simp
        · have : ¬ rsM (pnF (dyA dy k (nI e)) ni n) (fun f => caF (dyA dy k (nI e)) ca f n) 11 0 = true := fun z => by rw [h1.mpr z] at w; cases w
          rw [if_neg this]; simp
