/-! ===== rain ===== -/
def ouF (sc lo inn : Nat → Int32) (e : Nat) : Bool := !decide (sc e = 0) && decide (inn (lo e).toNatClampNeg = 0)
def reR (ni cs : Nat → Int32) (ti : Int32) (e : Nat) : Bool := !decide (ni e = 0) || decide (cs e &&& ti = 0)
def cvF (sc lo ni cs inn : Nat → Int32) (q ti : Int32) : Nat → Nat → Int32
  | 0, _ => -1
  | n + 1, k => if bt q k && !decide (sc k = 0) && !ouF sc lo inn k && reR ni cs ti k then nI k else cvF sc lo ni cs inn q ti n (k + 1)
/-- what is shot with the queue q, whose first day is i -/
def chF (sc lo ni cs inn : Nat → Int32) (q ti : Int32) (rn : Bool) (i : Nat) : Int32 := if rn && ouF sc lo inn i then cvF sc lo ni cs inn q ti (11 - i) (i + 1) else if reR ni cs ti i then nI i else -1
def lfF (sc lo ni cs inn : Nat → Int32) (q ti : Int32) (rn : Bool) (i : Nat) : Bool := rn && ouF sc lo inn i && decide (cvF sc lo ni cs inn q ti (11 - i) (i + 1) = -1)
def fiN (f : Nat → Bool) : Nat → Nat → Nat
  | 0, k => k
  | n + 1, k => if f k then k else fiN f n (k + 1)
def tiF (ni cs : Nat → Int32) (x : Int32) : Int32 := if x = -1 then 0 else if ni x.toNatClampNeg = 0 then 0 else cs x.toNatClampNeg
def raB (rain : Int32) (c : Nat) : Bool := decide (c < 12) && bt rain c
def qxF (q x : Int32) : Int32 := if x = -1 then q else q &&& (1 <<< (x &&& 31) ^^^ -1)
/-- the shooting: calendar, lost days, what was shot -/
def rnG (sc lo ni cs inn : Nat → Int32) (rain : Int32) : Nat → Nat → Int32 → Int32 → Int32 → (Nat → Int32) → Nat × Int32 × (Nat → Int32)
  | 0, c, _, _, ls, sh => (c, ls, sh)
  | n + 1, c, q, ti, ls, sh => if q = 0 then (c, ls, sh) else
      rnG sc lo ni cs inn rain n (c + 1) (qxF q (chF sc lo ni cs inn q ti (raB rain c) (fiN (bt q) 12 0))) (tiF ni cs (chF sc lo ni cs inn q ti (raB rain c) (fiN (bt q) 12 0))) (if lfF sc lo ni cs inn q ti (raB rain c) (fiN (bt q) 12 0) then ls + 1 else ls) (upd sh c (chF sc lo ni cs inn q ti (raB rain c) (fiN (bt q) 12 0)))
theorem fiN_fst {f : Nat → Bool} : ∀ n k, fstB f n k = if fiN f n k < k + n then nI (fiN f n k) else -1
  | 0, k => by simp [fstB, fiN]
  | n + 1, k => by
    by_cases h : f k = true
    · have e : fiN f (n + 1) k = k := by simp [fiN, h]
      rw [e, fstB, if_pos h, if_pos (by omega)]
    · have e : fiN f (n + 1) k = fiN f n (k + 1) := by simp [fiN, h]
      rw [e, fstB, if_neg h, fiN_fst n (k + 1), show k + 1 + n = k + (n + 1) by omega]
theorem fiN_spec {f : Nat → Bool} : ∀ n k, k ≤ fiN f n k ∧ fiN f n k ≤ k + n ∧ (fiN f n k < k + n → f (fiN f n k) = true) ∧ ∀ j, k ≤ j → j < fiN f n k → f j = false
  | 0, k => ⟨by simp [fiN], by simp [fiN], fun h => by simp [fiN] at h, fun j h1 h2 => by simp [fiN] at h2; omega⟩
  | n + 1, k => by
    simp only [fiN]
    by_cases h : f k = true
    · rw [if_pos h]
      exact ⟨by omega, by omega, fun _ => h, fun j h1 h2 => by omega⟩
    · rw [if_neg h]
      obtain ⟨h1, h2, h3, h4⟩ := fiN_spec (f := f) n (k + 1)
      refine ⟨by omega, by omega, fun q => h3 (by omega), fun j q1 q2 => ?_⟩
      by_cases e : j = k
      · rw [e]; simpa using h
      · exact h4 j (by omega) q2
theorem fiN_lt {q : Int32} (h12 : d12 q) (h : ¬ q = 0) : fiN (bt q) 12 0 < 12 := by
  obtain ⟨h1, h2, h3, h4⟩ := fiN_spec (f := bt q) 12 0
  apply Decidable.byContradiction
  intro z
  apply h
  rw [bt_eq0]
  intro k hk
  by_cases e : k < 12
  · exact h4 k (by omega) (by omega)
  · exact h12 k (by omega)
theorem cvF_spec {sc lo ni cs inn : Nat → Int32} {q ti : Int32} : ∀ n k, cvF sc lo ni cs inn q ti n k = -1 ∨ ∃ j, cvF sc lo ni cs inn q ti n k = nI j ∧ k ≤ j ∧ j < k + n ∧ bt q j = true
  | 0, k => Or.inl rfl
  | n + 1, k => by
    simp only [cvF]
    split
    · rename_i h
      refine Or.inr ⟨k, rfl, by omega, by omega, ?_⟩
      simp only [Bool.and_eq_true] at h
      exact h.1.1.1
    · rcases cvF_spec (sc := sc) (lo := lo) (ni := ni) (cs := cs) (inn := inn) (q := q) (ti := ti) n (k + 1) with h | ⟨j, h1, h2, h3, h4⟩
      · exact Or.inl h
      · exact Or.inr ⟨j, h1, by omega, by omega, h4⟩
theorem chF_spec {sc lo ni cs inn : Nat → Int32} {q ti : Int32} {rn : Bool} {i : Nat} (hi : i < 12) (hb : bt q i = true) : chF sc lo ni cs inn q ti rn i = -1 ∨ ∃ j, j < 12 ∧ chF sc lo ni cs inn q ti rn i = nI j ∧ bt q j = true := by
  unfold chF
  split
  · rcases cvF_spec (sc := sc) (lo := lo) (ni := ni) (cs := cs) (inn := inn) (q := q) (ti := ti) (11 - i) (i + 1) with h | ⟨j, h1, h2, h3, h4⟩
    · exact Or.inl h
    · exact Or.inr ⟨j, by omega, h1, h4⟩
  · split
    · exact Or.inr ⟨i, hi, rfl, hb⟩
    · exact Or.inl rfl
theorem qx_d12 {q : Int32} (h : d12 q) (x : Int32) : d12 (qxF q x) := by
  unfold qxF
  split
  · exact h
  · intro k hk
    rw [bt_and, h k hk, Bool.false_and]
theorem qx_bit {q : Int32} {j : Nat} (hj : j < 12) {k : Nat} (hk : k < 12) : bt (qxF q (nI j)) k = (bt q k && !decide (k = j)) := by
  unfold qxF
  rw [if_neg (m1n hj), bt_and, bt_not _ (by omega), bt_one (by omega) (by omega)]
theorem ct_rm {f h : Nat → Bool} {j : Nat} (hf : f j = true) (e : ∀ k, k < 12 → h k = (f k && !decide (k = j))) : ∀ n, n ≤ 12 → ct h n + (if j < n then 1 else 0) = ct f n
  | 0, _ => by simp [ct]
  | n + 1, hn => by
    have ih := ct_rm hf e n (by omega)
    simp only [ct]
    rw [e n (by omega)]
    by_cases q : n = j
    · subst q
      simp [hf] at ih ⊢
      exact ih
    · skip
      rw [decide_eq_false q, Bool.not_false, Bool.and_true]
      by_cases w : j < n
      · rw [if_pos w] at ih
        rw [if_pos (show j < n + 1 by omega)]
        omega
      · rw [if_neg w] at ih
        rw [if_neg (show ¬ j < n + 1 by omega)]
        omega
theorem qx_ct {q : Int32} {j : Nat} (hj : j < 12) (hb : bt q j = true) : ct (bt (qxF q (nI j))) 12 + 1 = ct (bt q) 12 := by
  have := ct_rm hb (fun k hk => qx_bit (q := q) hj hk) 12 (by omega)
  rw [if_pos hj] at this
  exact this
/-- the end comes within 36 days -/
def pot (c : Nat) (q ti : Int32) : Prop := c < 12 ∨ c + 2 * ct (bt q) 12 ≤ 36 ∨ (ti = 0 ∧ c + 2 * ct (bt q) 12 ≤ 37)
theorem pot_step {sc lo ni cs inn : Nat → Int32} {rain q ti : Int32} {c : Nat} (h12 : d12 q) (h0 : ¬ q = 0) (hp : pot c q ti) : c < 36 ∧ pot (c + 1) (qxF q (chF sc lo ni cs inn q ti (raB rain c) (fiN (bt q) 12 0))) (tiF ni cs (chF sc lo ni cs inn q ti (raB rain c) (fiN (bt q) 12 0))) := by
  have hi := fiN_lt h12 h0
  have hb : bt q (fiN (bt q) 12 0) = true := (fiN_spec (f := bt q) 12 0).2.2.1 (by omega)
  have hc1 : 0 < ct (bt q) 12 := ct_pos.mpr ⟨_, hi, hb⟩
  have hc2 := ct_le (bt q) 12
  refine ⟨by rcases hp with h | h | ⟨_, h⟩ <;> omega, ?_⟩
  by_cases hc : c + 1 < 12
  · exact Or.inl hc
  · right
    rcases chF_spec (sc := sc) (lo := lo) (ni := ni) (cs := cs) (inn := inn) (ti := ti) (rn := raB rain c) hi hb with h | ⟨j, hj, h, hbj⟩
    · right
      rw [h]
      refine ⟨by simp [tiF], ?_⟩
      rw [show qxF q (-1) = q by simp [qxF]]
      by_cases hcc : c < 12
      · omega
      · rcases hp with w | w | ⟨w, w2⟩
        · omega
        · omega
        · exfalso
          have hr : raB rain c = false := by simp [raB, hcc]
          have hre : reR ni cs ti (fiN (bt q) 12 0) = true := by simp [reR, w]
          rw [hr] at h
          unfold chF at h
          rw [Bool.false_and, if_neg (by simp), if_pos hre] at h
          exact m1n hi h
    · left
      rw [h]
      have := qx_ct hj hbj
      rcases hp with h | h | ⟨_, h⟩ <;> omega
