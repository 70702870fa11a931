/-! ===== what a table shows, told by the first scene of a day ===== -/
/-- the first of the first n scenes on day e -/
def anF (dy : Nat → Int32) (e : Nat) : Nat → Nat → Option Nat
  | 0, _ => none
  | n + 1, k => if dy k = nI e then some k else anF dy e n (k + 1)
def plF (dy lo : Nat → Int32) (n e : Nat) : Int32 := match anF dy e n 0 with
  | none => -1
  | some k => lo k
def pnF (dy ni : Nat → Int32) (n e : Nat) : Int32 := match anF dy e n 0 with
  | none => 0
  | some k => ni k
/-- scenes of a day have one place and one time -/
def cons (dy lo ni : Nat → Int32) (n : Nat) : Prop := ∀ i j e, i < n → j < n → e < 12 → dy i = nI e → dy j = nI e → lo i = lo j ∧ ni i = ni j
def tab (σ : Nat → Nat → Int32) (t p : Nat) (dy : Nat → Int32) (n : Nat) : Prop := ∀ e, e < 12 → σ (t + 1) e = scF dy e n ∧ σ (t + 2) e = plF dy (σ (p + 6)) n e ∧ σ (t + 3) e = pnF dy (σ (p + 8)) n e ∧ σ (t + 4) e = leF dy (σ (p + 7)) e n ∧ σ (t + 5) e = caF dy (σ (p + 9)) e n
theorem anF_spec {dy : Nat → Int32} {e : Nat} : ∀ n k, (anF dy e n k = none ∧ ∀ j, k ≤ j → j < k + n → ¬ dy j = nI e) ∨ ∃ j, anF dy e n k = some j ∧ k ≤ j ∧ j < k + n ∧ dy j = nI e ∧ ∀ i, k ≤ i → i < j → ¬ dy i = nI e
  | 0, k => Or.inl ⟨rfl, fun j h1 h2 => by omega⟩
  | n + 1, k => by
    simp only [anF]
    by_cases h : dy k = nI e
    · exact Or.inr ⟨k, by rw [if_pos h], by omega, by omega, h, fun i h1 h2 => by omega⟩
    · rw [if_neg h]
      rcases anF_spec (dy := dy) (e := e) n (k + 1) with ⟨h1, h2⟩ | ⟨j, h1, h2, h3, h4, h5⟩
      · refine Or.inl ⟨h1, fun j h3 h4 => ?_⟩
        by_cases q : j = k
        · rw [q]; exact h
        · exact h2 j (by omega) (by omega)
      · refine Or.inr ⟨j, h1, by omega, by omega, h4, fun i h6 h7 => ?_⟩
        by_cases q : i = k
        · rw [q]; exact h
        · exact h5 i (by omega) h7
theorem anF_none {dy : Nat → Int32} {e n : Nat} : anF dy e n 0 = none ↔ ∀ j, j < n → ¬ dy j = nI e := by
  rcases anF_spec (dy := dy) (e := e) n 0 with ⟨h1, h2⟩ | ⟨j, h1, h2, h3, h4, h5⟩
  · exact ⟨fun _ j hj => h2 j (by omega) (by omega), fun _ => h1⟩
  · rw [h1]
    exact ⟨fun q => (by cases q), fun q => absurd h4 (q j (by omega))⟩
theorem anF_some {dy : Nat → Int32} {e n j : Nat} (h : anF dy e n 0 = some j) : j < n ∧ dy j = nI e := by
  rcases anF_spec (dy := dy) (e := e) n 0 with ⟨h1, h2⟩ | ⟨j', h1, h2, h3, h4, h5⟩
  · rw [h1] at h; cases h
  · rw [h1] at h; cases h; exact ⟨by omega, h4⟩
theorem anF_congr {dy dy' : Nat → Int32} {e : Nat} : ∀ {n k : Nat}, (∀ j, j < k + n → dy j = dy' j) → anF dy e n k = anF dy' e n k
  | 0, _, _ => rfl
  | n + 1, k, h => by simp only [anF]; rw [h k (by omega), anF_congr (fun j hj => h j (by omega))]
theorem plF_congr {dy dy' lo lo' : Nat → Int32} {n e : Nat} (h1 : ∀ k, k < n → dy k = dy' k) (h2 : ∀ k, k < n → lo k = lo' k) : plF dy lo n e = plF dy' lo' n e := by
  unfold plF
  rw [anF_congr (dy' := dy') (fun j hj => h1 j (by omega))]
  cases h : anF dy' e n 0 with
  | none => rfl
  | some k => exact h2 k (anF_some h).1
theorem pnF_congr {dy dy' lo lo' : Nat → Int32} {n e : Nat} (h1 : ∀ k, k < n → dy k = dy' k) (h2 : ∀ k, k < n → lo k = lo' k) : pnF dy lo n e = pnF dy' lo' n e := by
  unfold pnF
  rw [anF_congr (dy' := dy') (fun j hj => h1 j (by omega))]
  cases h : anF dy' e n 0 with
  | none => rfl
  | some k => exact h2 k (anF_some h).1
/-- a scene of the day tells its place and time -/
theorem plF_of {dy lo ni : Nat → Int32} {n e k : Nat} (hc : cons dy lo ni n) (he : e < 12) (hk : k < n) (h : dy k = nI e) : plF dy lo n e = lo k ∧ pnF dy ni n e = ni k := by
  unfold plF pnF
  cases q : anF dy e n 0 with
  | none => exact absurd h (anF_none.mp q k hk)
  | some j =>
    obtain ⟨h1, h2⟩ := anF_some q
    exact ⟨(hc j k e h1 hk he h2 h).1, (hc j k e h1 hk he h2 h).2⟩
theorem plF_no {dy lo ni : Nat → Int32} {n e : Nat} (h : ∀ k, k < n → ¬ dy k = nI e) : plF dy lo n e = -1 ∧ pnF dy ni n e = 0 := by
  unfold plF pnF
  rw [anF_none.mpr h]
  exact ⟨rfl, rfl⟩
theorem loF_spec {dy lo ni : Nat → Int32} {e : Nat} : ∀ n, ((∀ k, k < n → ¬ dy k = nI e) ∧ loF dy lo e n = -1 ∧ niF dy ni e n = 0) ∨ ∃ k, k < n ∧ dy k = nI e ∧ loF dy lo e n = lo k ∧ niF dy ni e n = ni k
  | 0 => Or.inl ⟨fun k h => by omega, rfl, rfl⟩
  | n + 1 => by
    simp only [loF, niF]
    by_cases h : dy n = nI e
    · exact Or.inr ⟨n, by omega, h, by rw [if_pos h], by rw [if_pos h]⟩
    · rw [if_neg h, if_neg h]
      rcases loF_spec (dy := dy) (lo := lo) (ni := ni) (e := e) n with ⟨h1, h2, h3⟩ | ⟨k, h1, h2, h3, h4⟩
      · refine Or.inl ⟨fun k hk => ?_, h2, h3⟩
        by_cases q : k = n
        · rw [q]; exact h
        · exact h1 k (by omega)
      · exact Or.inr ⟨k, by omega, h2, h3, h4⟩
theorem loF_pl {dy lo ni : Nat → Int32} {n e : Nat} (hc : cons dy lo ni n) (he : e < 12) : loF dy lo e n = plF dy lo n e ∧ niF dy ni e n = pnF dy ni n e := by
  rcases loF_spec (dy := dy) (lo := lo) (ni := ni) (e := e) n with ⟨h1, h2, h3⟩ | ⟨k, h1, h2, h3, h4⟩
  · obtain ⟨q1, q2⟩ := plF_no (lo := lo) (ni := ni) h1
    rw [h2, h3, q1, q2]
    exact ⟨rfl, rfl⟩
  · obtain ⟨q1, q2⟩ := plF_of hc he h1 h2
    rw [h3, h4, q1, q2]
    exact ⟨rfl, rfl⟩
theorem shows.tab {σ : Nat → Nat → Int32} {t p : Nat} {dy : Nat → Int32} {n : Nat} (h : shows σ t p dy n) (hc : cons dy (σ (p + 6)) (σ (p + 8)) n) : tab σ t p dy n := by
  intro e he
  obtain ⟨s1, s2, s3, s4, s5⟩ := h e he
  obtain ⟨q1, q2⟩ := loF_pl hc he
  exact ⟨s1, s2.trans q1, s3.trans q2, s4, s5⟩
theorem scF_zero {dy : Nat → Int32} {e : Nat} : ∀ n, n ≤ 14 → (scF dy e n = 0 ↔ ∀ k, k < n → ¬ dy k = nI e) := by
  have key : ∀ n, n ≤ 14 → ∀ k, k < 32 → bt (scF dy e n) k = (decide (k < n) && decide (dy k = nI e)) := by
    intro n
    induction n with
    | zero => intro _ k _; simp [scF, bt_zero]
    | succ n ih =>
      intro hn k hk
      simp only [scF]
      by_cases h : dy n = nI e
      · rw [if_pos h, bt_or1 (by omega) hk, ih (by omega) k hk]
        by_cases q : k = n
        · subst q; simp [h]
        · simp [q, show (k < n + 1) = (k < n) by simp; omega]
      · rw [if_neg h, ih (by omega) k hk]
        by_cases q : k = n
        · subst q; simp [h]
        · simp [show (k < n + 1) = (k < n) by simp; omega]
  intro n hn
  rw [bt_eq0]
  constructor
  · intro h k hk
    have := h k (by omega)
    rw [key n hn k (by omega)] at this
    simpa [hk] using this
  · intro h k hk
    rw [key n hn k hk]
    by_cases q : k < n
    · simp [q, h k q]
    · simp [q]
theorem scF_an {dy : Nat → Int32} {e n : Nat} (hn : n ≤ 14) : scF dy e n = 0 ↔ anF dy e n 0 = none := by rw [scF_zero n hn, anF_none]
/-- one scene more on day e, of which no scene was anywhere -/
theorem dyA_at {dy : Nat → Int32} {k : Nat} {x : Int32} : dyA dy k x k = x := by simp [dyA]
theorem dyA_ne {dy : Nat → Int32} {k j : Nat} {x : Int32} (h : j ≠ k) : dyA dy k x j = dy j := by simp [dyA, h]
theorem or_comm3 (a b c : Int32) : a ||| b ||| c = a ||| c ||| b := by
  apply bt_ext
  intro k _
  simp only [bt_or]
  cases bt a k <;> cases bt b k <;> cases bt c k <;> rfl
theorem add_comm3 (a b c : Int32) : a + b + c = a + c + b := by rw [Int32.add_assoc, Int32.add_comm b c, ← Int32.add_assoc]
theorem scF_add {dy : Nat → Int32} {k e f : Nat} (he : e < 12) (hf : f < 12) : ∀ n, scF (dyA dy k (nI e)) f n = if k < n ∧ e = f then scF (dyA dy k (-1)) f n ||| 1 <<< (nI k &&& 31) else scF (dyA dy k (-1)) f n
  | 0 => by simp [scF]
  | n + 1 => by
    simp only [scF]
    rw [scF_add he hf n]
    by_cases h : n = k
    · subst h
      rw [dyA_at, dyA_at, if_neg (m1_nI hf)]
      by_cases q : e = f
      · subst q; simp
      · rw [if_neg (fun z => q ((nI_eq (by omega) (by omega)).mp z)), if_neg (by simp), if_neg (by simp [q])]
    · rw [dyA_ne h, dyA_ne h]
      by_cases q : k < n ∧ e = f
      · rw [if_pos q, if_pos (show k < n + 1 ∧ e = f from ⟨by omega, q.2⟩)]
        by_cases w : dy n = nI f
        · rw [if_pos w, if_pos w, or_comm3]
        · rw [if_neg w, if_neg w]
      · rw [if_neg q, if_neg (show ¬ (k < n + 1 ∧ e = f) from fun z => q ⟨by omega, z.2⟩)]
theorem leF_add {dy le : Nat → Int32} {k e f : Nat} (he : e < 12) (hf : f < 12) : ∀ n, leF (dyA dy k (nI e)) le f n = if k < n ∧ e = f then leF (dyA dy k (-1)) le f n + le k else leF (dyA dy k (-1)) le f n
  | 0 => by simp [leF]
  | n + 1 => by
    simp only [leF]
    rw [leF_add he hf n]
    by_cases h : n = k
    · subst h
      rw [dyA_at, dyA_at, if_neg (m1_nI hf)]
      by_cases q : e = f
      · subst q; simp
      · rw [if_neg (fun z => q ((nI_eq (by omega) (by omega)).mp z)), if_neg (by simp), if_neg (by simp [q])]
    · rw [dyA_ne h, dyA_ne h]
      by_cases q : k < n ∧ e = f
      · rw [if_pos q, if_pos (show k < n + 1 ∧ e = f from ⟨by omega, q.2⟩)]
        by_cases w : dy n = nI f
        · rw [if_pos w, if_pos w, add_comm3]
        · rw [if_neg w, if_neg w]
      · rw [if_neg q, if_neg (show ¬ (k < n + 1 ∧ e = f) from fun z => q ⟨by omega, z.2⟩)]
theorem caF_add {dy le : Nat → Int32} {k e f : Nat} (he : e < 12) (hf : f < 12) : ∀ n, caF (dyA dy k (nI e)) le f n = if k < n ∧ e = f then caF (dyA dy k (-1)) le f n ||| le k else caF (dyA dy k (-1)) le f n
  | 0 => by simp [caF]
  | n + 1 => by
    simp only [caF]
    rw [caF_add he hf n]
    by_cases h : n = k
    · subst h
      rw [dyA_at, dyA_at, if_neg (m1_nI hf)]
      by_cases q : e = f
      · subst q; simp
      · rw [if_neg (fun z => q ((nI_eq (by omega) (by omega)).mp z)), if_neg (by simp), if_neg (by simp [q])]
    · rw [dyA_ne h, dyA_ne h]
      by_cases q : k < n ∧ e = f
      · rw [if_pos q, if_pos (show k < n + 1 ∧ e = f from ⟨by omega, q.2⟩)]
        by_cases w : dy n = nI f
        · rw [if_pos w, if_pos w, or_comm3]
        · rw [if_neg w, if_neg w]
      · rw [if_neg q, if_neg (show ¬ (k < n + 1 ∧ e = f) from fun z => q ⟨by omega, z.2⟩)]
