/-! ===== THE TEXT, pure: tokens ===== -/
def isSp (x : Nat) : Bool := decide (x = 32) || decide (x = 10)
def isLt (x : Nat) : Bool := decide (97 ≤ x) && decide (x ≤ 122)
def isDg (x : Nat) : Bool := decide (48 ≤ x) && decide (x ≤ 57)
def scn (p : Nat → Bool) (b : Nat → Nat) : Nat → Nat → Nat
  | 0, k => k
  | n + 1, k => if p (b k) = true then scn p b n (k + 1) else k
def tS (b : Nat → Nat) (L k : Nat) : Nat := scn isSp b (L - k) k
def tK (b : Nat → Nat) (L k : Nat) : Nat := if L ≤ tS b L k then 0 else if isLt (b (tS b L k)) = true then 1 else if isDg (b (tS b L k)) = true then 2 else if b (tS b L k) = 59 then 3 else 4
def tE (b : Nat → Nat) (L k : Nat) : Nat := if tK b L k = 0 then tS b L k else if tK b L k = 1 then scn isLt b (L - tS b L k) (tS b L k) else if tK b L k = 2 then scn isDg b (L - tS b L k) (tS b L k) else tS b L k + 1
def ivG (b : Nat → Nat) : Nat → Nat → Nat → Nat
  | 0, _, v => v
  | n + 1, k, v => if isDg (b k) = true then ivG b n (k + 1) (if 100000 < v then v else 10 * v + (b k - 48)) else v
def tV (b : Nat → Nat) (L k : Nat) : Nat := ivG b (L - tS b L k) (tS b L k) 0
theorem scn_le (p : Nat → Bool) (b : Nat → Nat) : ∀ n k, k ≤ scn p b n k ∧ scn p b n k ≤ k + n
  | 0, k => ⟨Nat.le_refl _, Nat.le_refl _⟩
  | n + 1, k => by
    simp only [scn]
    split
    · have := scn_le p b n (k + 1); omega
    · omega
theorem scn_all (p : Nat → Bool) (b : Nat → Nat) : ∀ n k j, k ≤ j → j < scn p b n k → p (b j) = true
  | 0, k, j, h1, h2 => by simp only [scn] at h2; omega
  | n + 1, k, j, h1, h2 => by
    simp only [scn] at h2
    by_cases q : p (b k) = true
    · rw [if_pos q] at h2
      by_cases w : j = k
      · rw [w]; exact q
      · exact scn_all p b n (k + 1) j (by omega) h2
    · rw [if_neg q] at h2; omega
theorem scn_pos {p : Nat → Bool} {b : Nat → Nat} {n k : Nat} (hn : 0 < n) (h : p (b k) = true) : k < scn p b n k := by
  obtain ⟨m, rfl⟩ : ∃ m, n = m + 1 := ⟨n - 1, by omega⟩
  simp only [scn]
  rw [if_pos h]
  have := scn_le p b m (k + 1)
  omega
theorem tS_le {b : Nat → Nat} {L k : Nat} (h : k ≤ L) : k ≤ tS b L k ∧ tS b L k ≤ L := by
  have := scn_le isSp b (L - k) k
  unfold tS
  omega
theorem tK_le (b : Nat → Nat) (L k : Nat) : tK b L k ≤ 4 := by
  unfold tK
  split
  · omega
  split
  · omega
  split
  · omega
  split <;> omega
theorem tE_le {b : Nat → Nat} {L k : Nat} (h : k ≤ L) : tS b L k ≤ tE b L k ∧ tE b L k ≤ L ∧ (tK b L k ≠ 0 → tS b L k < tE b L k) ∧ (tK b L k ≠ 0 → tS b L k < L) := by
  obtain ⟨h1, h2⟩ := tS_le (b := b) h
  have hs1 := scn_le isLt b (L - tS b L k) (tS b L k)
  have hs2 := scn_le isDg b (L - tS b L k) (tS b L k)
  have hl : tK b L k ≠ 0 → tS b L k < L := fun z => by
    unfold tK at z
    by_cases q : L ≤ tS b L k
    · rw [if_pos q] at z; exact absurd rfl z
    · omega
  unfold tE
  by_cases q0 : tK b L k = 0
  · rw [if_pos q0]; exact ⟨Nat.le_refl _, h2, fun z => absurd q0 z, fun z => absurd q0 z⟩
  · have hlt := hl q0
    rw [if_neg q0]
    by_cases q1 : tK b L k = 1
    · rw [if_pos q1]
      have hp : isLt (b (tS b L k)) = true := by
        unfold tK at q1
        rw [if_neg (by omega)] at q1
        by_cases w : isLt (b (tS b L k)) = true
        · exact w
        · rw [if_neg w] at q1
          split at q1
          · omega
          · split at q1 <;> omega
      have := scn_pos (p := isLt) (b := b) (n := L - tS b L k) (k := tS b L k) (by omega) hp
      exact ⟨by omega, by omega, fun _ => this, fun _ => hlt⟩
    · rw [if_neg q1]
      by_cases q2 : tK b L k = 2
      · rw [if_pos q2]
        have hp : isDg (b (tS b L k)) = true := by
          unfold tK at q2
          rw [if_neg (by omega)] at q2
          by_cases w : isLt (b (tS b L k)) = true
          · rw [if_pos w] at q2; omega
          · rw [if_neg w] at q2
            by_cases v : isDg (b (tS b L k)) = true
            · exact v
            · rw [if_neg v] at q2; split at q2 <;> omega
        have := scn_pos (p := isDg) (b := b) (n := L - tS b L k) (k := tS b L k) (by omega) hp
        exact ⟨by omega, by omega, fun _ => this, fun _ => hlt⟩
      · rw [if_neg q2]; exact ⟨by omega, by omega, fun _ => by omega, fun _ => hlt⟩
theorem tE_k {b : Nat → Nat} {L k : Nat} (h : k ≤ L) : k ≤ tE b L k ∧ tE b L k ≤ L := by
  have h1 := tS_le (b := b) h
  have h2 := tE_le (b := b) h
  omega
theorem ivG_le (b : Nat → Nat) : ∀ n k v, v ≤ 1000009 → ivG b n k v ≤ 1000009
  | 0, _, v, h => h
  | n + 1, k, v, h => by
    simp only [ivG]
    split
    · rename_i q
      refine ivG_le b n (k + 1) _ ?_
      have : b k ≤ 57 := by
        unfold isDg at q
        simp only [Bool.and_eq_true, decide_eq_true_eq] at q
        exact q.2
      split <;> omega
    · exact h
theorem tV_le (b : Nat → Nat) (L k : Nat) : tV b L k ≤ 1000009 := ivG_le b _ _ 0 (by omega)
/-- letters of a word -/
theorem tW_lt {b : Nat → Nat} {L k : Nat} (h : k ≤ L) (h1 : tK b L k = 1) {j : Nat} (hj : tS b L k ≤ j) (hj2 : j < tE b L k) : 97 ≤ b j ∧ b j ≤ 122 := by
  have e : tE b L k = scn isLt b (L - tS b L k) (tS b L k) := by unfold tE; rw [if_neg (by omega), if_pos h1]
  have := scn_all isLt b (L - tS b L k) (tS b L k) j hj (by omega)
  unfold isLt at this
  simp only [Bool.and_eq_true, decide_eq_true_eq] at this
  exact this
/-! words -/
def wl (n : Nat) : List Int32 := match n with
  | 0 => [108, 111, 99, 97, 116, 105, 111, 110]
  | 1 => [97, 99, 116, 111, 114]
  | 2 => [115, 99, 101, 110, 101]
  | 3 => [115, 101, 116]
  | 4 => [100, 97, 121]
  | 5 => [105, 110]
  | 6 => [111, 117, 116]
  | 7 => [110, 105, 103, 104, 116]
  | 8 => [99, 97, 112, 97, 99, 105, 116, 121]
  | 9 => [109, 111, 118, 101]
  | 10 => [104, 111, 108, 100]
  | 11 => [100, 114, 111, 112]
  | _ => []
def eqW (b : Nat → Nat) (st en : Nat) (w : List Int32) : Bool := decide (en = st + w.length ∧ ∀ j, j < w.length → nI (b (st + j)) = w.getD j 0)
def wfG (b : Nat → Nat) (st en : Nat) : Nat → Nat → Int32
  | 0, _ => -1
  | n + 1, i => if eqW b st en (wl i) = true then nI i else wfG b st en n (i + 1)
/-- which word of the format the token at k is -/
def tW (b : Nat → Nat) (L k : Nat) : Int32 := if tK b L k = 1 then wfG b (tS b L k) (tE b L k) 12 0 else -1
theorem wl_inj : ∀ i, i < 12 → ∀ j, j < 12 → wl i = wl j → i = j := by decide +kernel
theorem eqW_list {b : Nat → Nat} {st en : Nat} {w w' : List Int32} (h : eqW b st en w = true) (h' : eqW b st en w' = true) : w = w' := by
  obtain ⟨h1, h2⟩ := of_decide_eq_true h
  obtain ⟨h3, h4⟩ := of_decide_eq_true h'
  have el : w.length = w'.length := by omega
  refine List.ext_getElem el (fun j a1 a2 => ?_)
  have e1 := h2 j a1
  have e2 := h4 j a2
  rw [e1] at e2
  simp [List.getD_eq_getElem?_getD, a1, a2] at e2
  exact e2
theorem wfG_spec {b : Nat → Nat} {st en : Nat} : ∀ n i, i + n = 12 → (wfG b st en n i = -1 ∧ ∀ j, i ≤ j → j < 12 → eqW b st en (wl j) = false) ∨ ∃ j, i ≤ j ∧ j < 12 ∧ wfG b st en n i = nI j ∧ eqW b st en (wl j) = true
  | 0, i, h => Or.inl ⟨rfl, fun j h1 h2 => by omega⟩
  | n + 1, i, h => by
    simp only [wfG]
    by_cases q : eqW b st en (wl i) = true
    · rw [if_pos q]; exact Or.inr ⟨i, Nat.le_refl _, by omega, rfl, q⟩
    · rw [if_neg q]
      rcases wfG_spec (b := b) (st := st) (en := en) n (i + 1) (by omega) with ⟨w1, w2⟩ | ⟨j, h1, h2, h3, h4⟩
      · refine Or.inl ⟨w1, fun j h1 h2 => ?_⟩
        by_cases z : j = i
        · rw [z]; simpa using q
        · exact w2 j (by omega) h2
      · exact Or.inr ⟨j, by omega, h2, h3, h4⟩
/-- the token at k is word i -/
theorem tW_iff {b : Nat → Nat} {L k i : Nat} (hi : i < 12) : tW b L k = nI i ↔ tK b L k = 1 ∧ eqW b (tS b L k) (tE b L k) (wl i) = true := by
  unfold tW
  by_cases q : tK b L k = 1
  · rw [if_pos q]
    rcases wfG_spec (b := b) (st := tS b L k) (en := tE b L k) 12 0 rfl with ⟨w1, w2⟩ | ⟨j, h1, h2, h3, h4⟩
    · rw [w1]
      constructor
      · intro z; exact absurd z (m1_nI hi)
      · intro z; rw [w2 i (by omega) hi] at z; exact absurd z.2 (by decide)
    · rw [h3]
      constructor
      · intro z
        have : j = i := (nI_eq (by omega) (by omega)).mp z
        rw [← this]; exact ⟨q, h4⟩
      · intro z
        rw [wl_inj j h2 i hi (eqW_list h4 z.2)]
  · rw [if_neg q]
    exact ⟨fun z => absurd z (m1_nI hi), fun z => absurd z.1 q⟩
theorem tW_or (b : Nat → Nat) (L k : Nat) : tW b L k = -1 ∨ ∃ i, i < 12 ∧ tW b L k = nI i := by
  unfold tW
  by_cases q : tK b L k = 1
  · rw [if_pos q]
    rcases wfG_spec (b := b) (st := tS b L k) (en := tE b L k) 12 0 rfl with ⟨w1, w2⟩ | ⟨j, h1, h2, h3, h4⟩
    · exact Or.inl w1
    · exact Or.inr ⟨j, h2, h3⟩
  · rw [if_neg q]; exact Or.inl rfl
/-- the letters of a name -/
def nmG (b : Nat → Nat) (st en : Nat) : Nat → Nat → Int32 → Int32
  | 0, _, x => x
  | n + 1, i, x => nmG b st en n (i + 1) (x <<< (5 &&& 31) ||| (if st + i < en then nI (b (st + i)) - 97 + 1 else 0))
def tN (b : Nat → Nat) (L k : Nat) : Int32 := nmG b (tS b L k) (tE b L k) 6 0 0
/-- a name stands at k -/
def isNm (b : Nat → Nat) (L k : Nat) : Bool := decide (tK b L k = 1) && decide (tE b L k - tS b L k ≤ 6) && decide (tW b L k = -1)
/-! bytes of the class -/
def sB (x : Nat) : Int32 := (nI x).toInt8.toInt32
theorem sB_lo : ∀ x, x < 128 → sB x = nI x := by decide +kernel
theorem sB_hi : ∀ x, x < 256 → 128 ≤ x → sB x < 0 := by decide +kernel
theorem sB_eq {x c : Nat} (hx : x < 256) (hc : c < 128) : sB x = nI c ↔ x = c := by
  by_cases q : x < 128
  · rw [sB_lo x q]; exact nI_eq (by omega) (by omega)
  · have h := sB_hi x hx (by omega)
    constructor
    · intro z; rw [z] at h; exact absurd h (nI_pos (by omega))
    · intro z; omega
theorem sB_let : ∀ x, x < 256 → ((¬ sB x < 97 ∧ ¬ 122 < sB x) ↔ isLt x = true) := by decide +kernel
theorem sB_dig : ∀ x, x < 256 → ((¬ sB x < 48 ∧ ¬ 57 < sB x) ↔ isDg x = true) := by decide +kernel
theorem nB_let : ∀ x, x < 256 → ((¬ nI x < 97 ∧ ¬ 122 < nI x) ↔ isLt x = true) := by decide +kernel
theorem nB_dig : ∀ x, x < 256 → ((¬ nI x < 48 ∧ ¬ 57 < nI x) ↔ isDg x = true) := by decide +kernel
theorem tK_of {b : Nat → Nat} {L k : Nat} : (L ≤ tS b L k → tK b L k = 0) ∧ (¬ L ≤ tS b L k → (isLt (b (tS b L k)) = true → tK b L k = 1) ∧ (isLt (b (tS b L k)) = false → (isDg (b (tS b L k)) = true → tK b L k = 2) ∧ (isDg (b (tS b L k)) = false → (b (tS b L k) = 59 → tK b L k = 3) ∧ (¬ b (tS b L k) = 59 → tK b L k = 4)))) := by
  unfold tK
  refine ⟨fun h => if_pos h, fun h => ⟨fun h1 => by rw [if_neg h, if_pos h1], fun h1 => ⟨fun h2 => by rw [if_neg h, if_neg (by rw [h1]; decide), if_pos h2], fun h2 => ⟨fun h3 => by rw [if_neg h, if_neg (by rw [h1]; decide), if_neg (by rw [h2]; decide), if_pos h3], fun h3 => by rw [if_neg h, if_neg (by rw [h1]; decide), if_neg (by rw [h2]; decide), if_neg h3]⟩⟩⟩⟩
