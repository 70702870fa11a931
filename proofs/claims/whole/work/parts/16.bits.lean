/-! ===== bits ===== -/
def bt (x : Int32) (k : Nat) : Bool := x.toBitVec.getLsbD k
theorem bt_or (x y : Int32) (k : Nat) : bt (x ||| y) k = (bt x k || bt y k) := by simp [bt]
theorem bt_and (x y : Int32) (k : Nat) : bt (x &&& y) k = (bt x k && bt y k) := by simp [bt]
theorem bt_xor (x y : Int32) (k : Nat) : bt (x ^^^ y) k = (bt x k ^^ bt y k) := by simp [bt]
theorem bt_ge (x : Int32) {k : Nat} (h : 32 ≤ k) : bt x k = false := BitVec.getLsbD_of_ge _ _ h
theorem bt_ext {x y : Int32} (h : ∀ k, k < 32 → bt x k = bt y k) : x = y := by
  apply Int32.toBitVec_inj.mp
  apply BitVec.eq_of_getLsbD_eq
  intro i hi
  exact h i hi
theorem bt_zero (k : Nat) : bt 0 k = false := by simp [bt]
theorem bt_m1 {k : Nat} (h : k < 32) : bt (-1) k = true := by
  have : ∀ k, k < 32 → bt (-1) k = true := by decide
  exact this k h
theorem bt_not (x : Int32) {k : Nat} (h : k < 32) : bt (x ^^^ (-1)) k = !bt x k := by rw [bt_xor, bt_m1 h]; cases bt x k <;> rfl
theorem sh_am {d : Nat} (h : d < 32) : ((nI d &&& 31).toBitVec.smod 32).toNat = d := by
  have : ∀ d, d < 32 → ((nI d &&& 31).toBitVec.smod 32).toNat = d := by decide
  exact this d h
theorem bt_one {d k : Nat} (hd : d < 32) (hk : k < 32) : bt (1 <<< (nI d &&& 31)) k = decide (k = d) := by
  have : ∀ d, d < 32 → ∀ k, k < 32 → bt (1 <<< (nI d &&& 31)) k = decide (k = d) := by decide +kernel
  exact this d hd k hk
theorem bt_and1 (x : Int32) : (x &&& 1 = 0) ↔ bt x 0 = false := by
  constructor
  · intro h
    have := congrArg (fun z => bt z 0) h
    simp only [bt_and, bt_zero] at this
    have h1 : bt 1 0 = true := by decide
    rw [h1, Bool.and_true] at this
    exact this
  · intro h
    apply bt_ext
    intro k hk
    rw [bt_and, bt_zero]
    by_cases e : k = 0
    · subst e; rw [h]; rfl
    · have : ∀ k, k < 32 → k ≠ 0 → bt 1 k = false := by decide
      rw [this k hk e, Bool.and_false]
theorem bt_shr (x : Int32) {d k : Nat} (hd : d < 32) (hk : d + k < 32) : bt (x >>> (nI d &&& 31)) k = bt x (d + k) := by
  simp only [bt, Int32.toBitVec_shiftRight, sh_am hd]
  rw [BitVec.sshiftRight_eq', sh_am hd, BitVec.getLsbD_sshiftRight]
  simp [show k < 32 by omega, hk]
  try omega
theorem bt_has {x : Int32} {d : Nat} (hd : d < 32) : (x >>> (nI d &&& 31) &&& 1 = 0) ↔ bt x d = false := by
  rw [bt_and1, bt_shr x hd (by omega)]
  rfl
theorem bt_one1 (x : Int32) : (x &&& 1 = 1) ↔ bt x 0 = true := by
  constructor
  · intro h
    cases hb : bt x 0
    · rw [(bt_and1 x).mpr hb] at h
      exact absurd h (by decide)
    · rfl
  · intro h
    apply bt_ext
    intro k hk
    rw [bt_and]
    by_cases e : k = 0
    · subst e; rw [h]; rfl
    · have : ∀ k, k < 32 → k ≠ 0 → bt 1 k = false := by decide
      rw [this k hk e, Bool.and_false]
theorem bt_has1 {x : Int32} {d : Nat} (hd : d < 32) : (x >>> (nI d &&& 31) &&& 1 = 1) ↔ bt x d = true := by
  rw [bt_one1, bt_shr x hd (by omega)]
  rfl
theorem bt_eq0 {x : Int32} : x = 0 ↔ ∀ k, k < 32 → bt x k = false := by
  constructor
  · intro h k _
    rw [h, bt_zero]
  · intro h
    apply bt_ext
    intro k hk
    rw [h k hk, bt_zero]
def bI (b : Bool) : Int32 := if b then 1 else 0
theorem bI01 (b : Bool) : bI b = 0 ∨ bI b = 1 := by cases b <;> simp [bI]
theorem bI_eq0 {b : Bool} : bI b = 0 ↔ b = false := by cases b <;> simp [bI]
theorem bI_eq1 {b : Bool} : bI b = 1 ↔ b = true := by cases b <;> simp [bI]
/-- how many of the first n -/
def ct (f : Nat → Bool) : Nat → Nat
  | 0 => 0
  | n + 1 => ct f n + (if f n then 1 else 0)
theorem ct_le (f : Nat → Bool) (n : Nat) : ct f n ≤ n := by
  induction n with
  | zero => exact Nat.le_refl _
  | succ n ih => simp only [ct]; split <;> omega
theorem ct_congr {f h : Nat → Bool} : ∀ {n : Nat}, (∀ k, k < n → f k = h k) → ct f n = ct h n
  | 0, _ => rfl
  | n + 1, e => by simp only [ct]; rw [e n (by omega), ct_congr (fun k hk => e k (by omega))]
