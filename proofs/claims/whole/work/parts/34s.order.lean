/-! ===== THE SEARCH, pure: orders by their numbers ===== -/
def rwN (n x i : Nat) : Nat := x / n ^ (n - 1 - i) % n
def owG (f : Nat → Bool) : Nat → Nat → Nat
  | 0, _ => 0
  | m + 1, i => if f m = true ∧ ct f m = i then m else owG f m i
theorem ct_s (f : Nat → Bool) (n : Nat) : ct f (n + 1) = ct f n + (if f n then 1 else 0) := rfl
theorem owG_spec (f : Nat → Bool) : ∀ m i, i < ct f m → owG f m i < m ∧ f (owG f m i) = true ∧ ct f (owG f m i) = i
  | 0, i, h => by simp [ct] at h
  | m + 1, i, h => by
    simp only [owG]
    by_cases q : f m = true ∧ ct f m = i
    · rw [if_pos q]; exact ⟨by omega, q.1, q.2⟩
    · rw [if_neg q]
      have hi : i < ct f m := by
        rw [ct_s] at h
        by_cases w : f m = true
        · rw [if_pos w] at h
          have : ¬ ct f m = i := fun z => q ⟨w, z⟩
          omega
        · rw [if_neg w] at h; omega
      obtain ⟨h1, h2, h3⟩ := owG_spec f m i hi
      exact ⟨by omega, h2, h3⟩
theorem ct_inj {f : Nat → Bool} {a b : Nat} (ha : f a = true) (hb : f b = true) (h : ct f a = ct f b) : a = b := by
  rcases Nat.lt_trichotomy a b with q | q | q
  · have := ct_mono f (show a + 1 ≤ b by omega)
    rw [ct_s, if_pos ha] at this
    omega
  · exact q
  · have := ct_mono f (show b + 1 ≤ a by omega)
    rw [ct_s, if_pos hb] at this
    omega
theorem owG_ct {f : Nat → Bool} {e m : Nat} (he : e < m) (hf : f e = true) : owG f m (ct f e) = e := by
  have hlt : ct f e < ct f m := (ct_lt (by omega)).mpr ⟨e, Nat.le_refl _, he, hf⟩
  obtain ⟨h1, h2, h3⟩ := owG_spec f m (ct f e) hlt
  exact ct_inj h2 hf h3
def inS (r : Nat → Nat) : Nat → Nat → Bool
  | 0, _ => false
  | p + 1, j => inS r p j || decide (r p = j)
theorem inS_iff (r : Nat → Nat) : ∀ p j, inS r p j = true ↔ ∃ i, i < p ∧ r i = j
  | 0, j => by simp [inS]
  | p + 1, j => by
    simp only [inS, Bool.or_eq_true, decide_eq_true_eq, inS_iff r p j]
    constructor
    · rintro (⟨i, h1, h2⟩ | h)
      · exact ⟨i, by omega, h2⟩
      · exact ⟨p, by omega, h⟩
    · rintro ⟨i, h1, h2⟩
      by_cases q : i = p
      · subst q; exact Or.inr h2
      · exact Or.inl ⟨i, by omega, h2⟩
theorem inS_congr {r r' : Nat → Nat} : ∀ p j, (∀ i, i < p → r i = r' i) → inS r p j = inS r' p j
  | 0, _, _ => rfl
  | p + 1, j, h => by simp only [inS]; rw [inS_congr p j (fun i hi => h i (by omega)), h p (by omega)]
theorem ct_or1 (g : Nat → Bool) (x : Nat) : ∀ n, ct (fun j => g j || decide (x = j)) n = ct g n + (if x < n ∧ g x = false then 1 else 0)
  | 0 => by simp [ct]
  | n + 1 => by
    rw [ct_s, ct_s, ct_or1 g x n]
    by_cases q : x = n
    · subst q
      cases hg : g x <;> simp [hg]
    · have e1 : (x < n + 1 ∧ g x = false) ↔ (x < n ∧ g x = false) := ⟨fun h => ⟨by omega, h.2⟩, fun h => ⟨by omega, h.2⟩⟩
      simp only [q, decide_false, Bool.or_false, e1]
      omega
theorem ct_inS_s (r : Nat → Nat) (p n : Nat) : ct (inS r (p + 1)) n = ct (inS r p) n + (if r p < n ∧ inS r p (r p) = false then 1 else 0) := ct_or1 (inS r p) (r p) n
def pmB (r : Nat → Nat) (n : Nat) : Bool := decide (ct (inS r n) n = n)
theorem ct_inS_add (r : Nat → Nat) (n p : Nat) : ∀ k, ct (inS r (p + k)) n ≤ ct (inS r p) n + k
  | 0 => Nat.le_refl _
  | k + 1 => by
    have := ct_inS_add r n p k
    rw [show p + (k + 1) = (p + k) + 1 from rfl, ct_inS_s]
    split <;> omega
theorem ct_zero (n : Nat) : ct (fun _ => false) n = 0 := by
  induction n with
  | zero => rfl
  | succ n ih => rw [ct_s, ih]; simp
theorem ct_inS_le (r : Nat → Nat) (n p : Nat) : ct (inS r p) n ≤ p := by
  have h := ct_inS_add r n 0 p
  have e : ct (inS r 0) n = 0 := ct_zero n
  rw [e, Nat.zero_add] at h
  omega
theorem pm_new {r : Nat → Nat} {n : Nat} (h : pmB r n = true) {p : Nat} (hp : p < n) : inS r p (r p) = false := by
  have h1 : ct (inS r n) n = n := of_decide_eq_true h
  cases q : inS r p (r p) with
  | false => rfl
  | true =>
    have h2 := ct_inS_le r n p
    have h3 := ct_inS_s r p n
    rw [if_neg (fun z => by rw [q] at z; exact absurd z.2 (by decide))] at h3
    have h4 := ct_inS_add r n (p + 1) (n - (p + 1))
    rw [show p + 1 + (n - (p + 1)) = n by omega] at h4
    omega
theorem pm_of_new {r : Nat → Nat} {n : Nat} (h : ∀ p, p < n → r p < n ∧ inS r p (r p) = false) : pmB r n = true := by
  have key : ∀ p, p ≤ n → ct (inS r p) n = p := by
    intro p
    induction p with
    | zero => intro _; exact ct_zero n
    | succ p ih =>
      intro hp
      rw [ct_inS_s, ih (by omega), if_pos (h p (by omega))]
  exact decide_eq_true (key n (Nat.le_refl _))
theorem pm_inj {r : Nat → Nat} {n : Nat} (h : pmB r n = true) {i j : Nat} (hi : i < n) (hj : j < n) (e : r i = r j) : i = j := by
  rcases Nat.lt_trichotomy i j with q | q | q
  · have := pm_new h hj
    rw [(inS_iff r j (r j)).mpr ⟨i, q, e⟩] at this
    exact absurd this (by decide)
  · exact q
  · have := pm_new h hi
    rw [(inS_iff r i (r i)).mpr ⟨j, q, e.symm⟩] at this
    exact absurd this (by decide)
theorem ct_full {f : Nat → Bool} : ∀ {n : Nat}, ct f n = n → ∀ j, j < n → f j = true
  | 0, _, j, hj => by omega
  | n + 1, h, j, hj => by
    rw [ct_s] at h
    have h2 := ct_le f n
    cases q : f n with
    | false => rw [q] at h; simp at h; omega
    | true =>
      rw [q] at h
      by_cases w : j = n
      · rw [w]; exact q
      · exact ct_full (by simpa using h) j (by omega)
theorem ct_all {f : Nat → Bool} : ∀ {n : Nat}, (∀ j, j < n → f j = true) → ct f n = n
  | 0, _ => rfl
  | n + 1, h => by rw [ct_s, ct_all (fun j hj => h j (by omega)), h n (by omega)]; simp
theorem pm_sur {r : Nat → Nat} {n : Nat} (h : pmB r n = true) {j : Nat} (hj : j < n) : ∃ i, i < n ∧ r i = j := (inS_iff r n j).mp (ct_full (of_decide_eq_true h) j hj)
def smN (f : Nat → Nat) : Nat → Nat
  | 0 => 0
  | n + 1 => smN f n + f n
theorem smN_congr {f h : Nat → Nat} : ∀ {n : Nat}, (∀ k, k < n → f k = h k) → smN f n = smN h n
  | 0, _ => rfl
  | n + 1, e => by simp only [smN]; rw [smN_congr (fun k hk => e k (by omega)), e n (by omega)]
theorem smN_le {f h : Nat → Nat} : ∀ {n : Nat}, (∀ k, k < n → f k ≤ h k) → smN f n ≤ smN h n
  | 0, _ => Nat.le_refl _
  | n + 1, e => by simp only [smN]; have := smN_le (fun k hk => e k (Nat.lt_succ_of_lt hk)); have := e n (by omega); omega
theorem smN_zero (n : Nat) : smN (fun _ => 0) n = 0 := by
  induction n with
  | zero => rfl
  | succ n ih => simp only [smN, ih]
theorem smN_add (f h : Nat → Nat) : ∀ n, smN (fun k => f k + h k) n = smN f n + smN h n
  | 0 => rfl
  | n + 1 => by simp only [smN]; rw [smN_add f h n]; omega
theorem smN_if (g : Nat → Bool) (f : Nat → Nat) (x : Nat) : ∀ n, smN (fun j => if (g j || decide (x = j)) = true then f j else 0) n = smN (fun j => if g j = true then f j else 0) n + (if x < n ∧ g x = false then f x else 0)
  | 0 => by simp [smN]
  | n + 1 => by
    simp only [smN]
    rw [smN_if g f x n]
    by_cases q : x = n
    · subst q
      cases hg : g x <;> simp
    · have e1 : (x < n + 1 ∧ g x = false) ↔ (x < n ∧ g x = false) := ⟨fun h => ⟨by omega, h.2⟩, fun h => ⟨by omega, h.2⟩⟩
      simp only [q, decide_false, Bool.or_false, e1]
      omega
/-- a sum over an order is the sum -/
theorem smN_pm {r : Nat → Nat} {n : Nat} (h : pmB r n = true) (hr : ∀ i, i < n → r i < n) (f : Nat → Nat) : smN (fun i => f (r i)) n = smN f n := by
  have key : ∀ p, p ≤ n → smN (fun i => f (r i)) p = smN (fun j => if inS r p j = true then f j else 0) n := by
    intro p
    induction p with
    | zero => intro _; simp only [smN, inS]; exact (smN_zero n).symm
    | succ p ih =>
      intro hp
      have e := smN_if (inS r p) f (r p) n
      rw [if_pos ⟨hr p (by omega), pm_new h (by omega)⟩, ← ih (by omega)] at e
      exact e.symm
  rw [key n (Nat.le_refl _)]
  refine smN_congr (fun k hk => ?_)
  rw [if_pos (ct_full (of_decide_eq_true h) k hk)]
theorem smN_ow (f : Nat → Bool) (v : Nat → Nat) (m : Nat) : ∀ k, k ≤ m → smN (fun i => v (owG f m i)) (ct f k) = smN (fun e => if f e = true then v e else 0) k
  | 0, _ => rfl
  | k + 1, h => by
    have ih := smN_ow f v m k (by omega)
    rw [ct_s]
    cases q : f k with
    | false => simp only [smN, q]; simpa using ih
    | true =>
      simp only [smN, q, if_true]
      rw [ih, owG_ct (by omega) q]
theorem smN_ct (f : Nat → Bool) : ∀ n, smN (fun e => if f e = true then 1 else 0) n = ct f n
  | 0 => rfl
  | n + 1 => by simp only [smN, ct]; rw [smN_ct f n]
/-- rows of a block of numbers -/
theorem rwN_lt {n x i : Nat} (h : 0 < n) : rwN n x i < n := Nat.mod_lt _ h
theorem rwN_at {n p r a j x : Nat} (hp : p + (r + 1) = n) (hj : j < n) (h1 : (a * n + j) * n ^ r ≤ x) (h2 : x < (a * n + j + 1) * n ^ r) : rwN n x p = j := by
  unfold rwN
  rw [show n - 1 - p = r by omega, Nat.div_eq_of_lt_le h1 h2, Nat.mul_comm a n, Nat.mul_add_mod, Nat.mod_eq_of_lt hj]
theorem blk_sub {n r a j x : Nat} (hj : j < n) (h1 : (a * n + j) * n ^ r ≤ x) (h2 : x < (a * n + j + 1) * n ^ r) : a * n ^ (r + 1) ≤ x ∧ x < (a + 1) * n ^ (r + 1) := by
  have e1 : a * n ^ (r + 1) = a * n * n ^ r := by rw [Nat.pow_succ, Nat.mul_assoc, Nat.mul_comm n]
  have e2 : (a + 1) * n ^ (r + 1) = (a + 1) * n * n ^ r := by rw [Nat.pow_succ, Nat.mul_assoc (a + 1), Nat.mul_comm n]
  rw [e1, e2]
  refine ⟨Nat.le_trans (Nat.mul_le_mul_right _ (by omega)) h1, Nat.lt_of_lt_of_le h2 (Nat.mul_le_mul_right _ ?_)⟩
  rw [Nat.add_mul]
  omega
/-- the first of the least -/
def stp (gd : Nat → Bool) (co : Nat → Nat) (s : Option Nat) (x : Nat) : Option Nat := if gd x = true then (match s with | none => some x | some m => if co x < co m then some x else some m) else s
def sfd (gd : Nat → Bool) (co : Nat → Nat) : Nat → Nat → Option Nat → Option Nat
  | 0, _, s => s
  | k + 1, a, s => sfd gd co k (a + 1) (stp gd co s a)
theorem sfd_add {gd : Nat → Bool} {co : Nat → Nat} : ∀ k l a s, sfd gd co (k + l) a s = sfd gd co l (a + k) (sfd gd co k a s)
  | 0, l, a, s => by rw [Nat.zero_add]; rfl
  | k + 1, l, a, s => by
    rw [show k + 1 + l = (k + l) + 1 by omega]
    simp only [sfd]
    rw [sfd_add k l (a + 1), show a + 1 + k = a + (k + 1) by omega]
theorem sfd_skip {gd : Nat → Bool} {co : Nat → Nat} {s : Option Nat} : ∀ k a, (∀ x, a ≤ x → x < a + k → stp gd co s x = s) → sfd gd co k a s = s
  | 0, _, _ => rfl
  | k + 1, a, h => by
    simp only [sfd]
    rw [h a (Nat.le_refl _) (by omega)]
    exact sfd_skip k (a + 1) (fun x h1 h2 => h x (by omega) (by omega))
theorem stp_bad {gd : Nat → Bool} {co : Nat → Nat} {s : Option Nat} {x : Nat} (h : gd x = false) : stp gd co s x = s := by
  unfold stp; rw [if_neg (by rw [h]; decide)]
theorem stp_dear {gd : Nat → Bool} {co : Nat → Nat} {m x : Nat} (h : gd x = true → co m ≤ co x) : stp gd co (some m) x = some m := by
  unfold stp
  by_cases q : gd x = true
  · rw [if_pos q]; simp only; rw [if_neg (by have := h q; omega)]
  · rw [if_neg q]
/-- days held, of a set of places -/
def hcN (D w : Nat) : Nat := ct (heB (bt (nI w)) (nI D)) 12
theorem hc_mono : ∀ D, D < 12 → ∀ p, p < 7 → ∀ w, w < 2 ^ p → hcN (D + 1) w ≤ hcN (D + 1) (w + 2 ^ p) := by decide +kernel
/-- where a scene stands in a row of days -/
def sdF (x : Int32) (r : Nat → Nat) : Nat → Int32
  | 0 => -1
  | i + 1 => if x = nI (r i) then nI i else sdF x r i
theorem sdF_no {x : Int32} {r : Nat → Nat} : ∀ n, (∀ i, i < n → ¬ x = nI (r i)) → sdF x r n = -1
  | 0, _ => rfl
  | n + 1, h => by simp only [sdF]; rw [if_neg (h n (by omega))]; exact sdF_no n (fun i hi => h i (by omega))
theorem sdF_at {x : Int32} {r : Nat → Nat} {i : Nat} (hx : x = nI (r i)) : ∀ n, i < n → (∀ j, j < n → x = nI (r j) → j = i) → sdF x r n = nI i
  | 0, h, _ => by omega
  | n + 1, h, hu => by
    simp only [sdF]
    by_cases q : x = nI (r n)
    · rw [if_pos q, hu n (by omega) q]
    · rw [if_neg q]
      have : i ≠ n := fun z => q (z ▸ hx)
      exact sdF_at hx n (by omega) (fun j hj => hu j (by omega))
theorem sdF_or (x : Int32) (r : Nat → Nat) : ∀ n, sdF x r n = -1 ∨ ∃ i, i < n ∧ sdF x r n = nI i ∧ x = nI (r i)
  | 0 => Or.inl rfl
  | n + 1 => by
    simp only [sdF]
    by_cases q : x = nI (r n)
    · rw [if_pos q]; exact Or.inr ⟨n, by omega, rfl, q⟩
    · rw [if_neg q]
      rcases sdF_or x r n with w | ⟨i, h1, h2, h3⟩
      · exact Or.inl w
      · exact Or.inr ⟨i, by omega, h2, h3⟩
theorem sdF_congr {x : Int32} {r r' : Nat → Nat} : ∀ n, (∀ i, i < n → r i = r' i) → sdF x r n = sdF x r' n
  | 0, _ => rfl
  | n + 1, h => by simp only [sdF]; rw [h n (by omega), sdF_congr n (fun i hi => h i (by omega))]
/-! ===== the same of V ===== -/
abbrev Vt : Type := Nat → Nat → Int32
abbrev v_dy (V : Vt) : Nat → Int32 := fr_ (V 4) 4
abbrev v_lo (V : Vt) : Nat → Int32 := fr_ (V 2) 24
abbrev v_le (V : Vt) : Nat → Int32 := fr_ (V 2) 38
abbrev v_ni (V : Vt) : Nat → Int32 := fr_ (V 2) 52
abbrev v_ca (V : Vt) : Nat → Int32 := fr_ (V 2) 66
/-- the cost of V -/
def coV (V : Vt) (nA nS : Nat) (dy : Nat → Int32) : Int32 := cmM (plF dy (v_lo V) nS) (fun e => caF dy (v_ca V) e nS) (fr_ (V 2) 4) (fr_ (V 2) 18) nA (V 4 1) (V 4 2) (V 4 3)
def ocV (V : Vt) (nS e : Nat) : Bool := (anF (v_dy V) e nS 0).isSome
def nDV (V : Vt) (nS : Nat) : Nat := ct (ocV V nS) 12
def owV (V : Vt) (nS : Nat) : Nat → Nat := owG (ocV V nS) 12
/-- the row now, if the days stand as number x says -/
def stR (V : Vt) (nS : Nat) (r : Nat → Nat) : Nat → Int32 := fun j => if 4 ≤ j ∧ j < 4 + nS then sdF (V 4 j) (fun i => owV V nS (r i)) (nDV V nS) else V 4 j
def gdV (V : Vt) (nS x : Nat) : Bool := pmB (rwN (nDV V nS) x) (nDV V nS) && rsM (pnF (fr_ (stR V nS (rwN (nDV V nS) x)) 4) (v_ni V) nS) (fun e => caF (fr_ (stR V nS (rwN (nDV V nS) x)) 4) (v_ca V) e nS) 11 0
def ccV (V : Vt) (nA nS x : Nat) : Nat := (coV V nA nS (fr_ (stR V nS (rwN (nDV V nS) x)) 4)).toNatClampNeg
def bsV (V : Vt) (nA nS : Nat) : Option Nat := sfd (gdV V nS) (ccV V nA nS) (nDV V nS ^ nDV V nS) 0 none
/-- the answer of bestCost -/
def bcV (V : Vt) (nA nS : Nat) : Int32 := if 7 < nDV V nS then -4 else match bsV V nA nS with | none => -1 | some m => nI (ccV V nA nS m)
