/-! ===== fill: what it does, and the class's loop ===== -/
def reN (V : Vt) (N : Nat → Int32) (nS k e : Nat) : Int32 := rmF (v_lo V) (v_ni V) (v_le V) (v_ca V) (N 0) (fr_ N 4) nS k e
/-- the row and the count after the scenes from k on -/
def flF (V : Vt) (nS : Nat) : Nat → Nat → (Nat → Int32) → Nat → (Nat → Int32) × Nat
  | 0, _, N, c => (N, c)
  | n + 1, k, N, c => if N (4 + k) = -1 ∧ ¬ loD (reN V N nS k) 12 0 = -1 then flF V nS n (k + 1) (nwN N k (loD (reN V N nS k) 12 0)) (c + 1) else flF V nS n (k + 1) N c
theorem loD_spec {re : Nat → Int32} : ∀ n e, loD re n e = -1 ∨ ∃ f, e ≤ f ∧ f < e + n ∧ loD re n e = nI f ∧ re f = 0
  | 0, e => Or.inl rfl
  | n + 1, e => by
    simp only [loD]
    by_cases q : re e = 0
    · rw [if_pos q]; exact Or.inr ⟨e, by omega, by omega, rfl, q⟩
    · rw [if_neg q]
      rcases loD_spec (re := re) n (e + 1) with w | ⟨f, h1, h2, h3, h4⟩
      · exact Or.inl w
      · exact Or.inr ⟨f, by omega, by omega, h3, h4⟩
section PD7
variable {g : fs_G} {d : Nat} {S : List fs_Sh} {fr : Bool} {σ : Nat → Nat → Int32} {τ : Nat → Nat → Int64} {V : Vt} {nL nA nS kp nb : Nat}
theorem IC0_ch0 {σ1 σ2 : Nat → Nat → Int32} {N : Nat → Int32} (h : IC0 σ V nL nA nS kp nb) (hk : kp ≤ 12) (hs : same σ σ1 (fun a => a = 46 ∨ a = 47)) (s1 : σ1 46 0 = nI (k0 kp + 1)) (s2 : ∀ b, b < 18 * (k0 kp + 1) → σ1 47 b = keR (σ 47) (fun i => if i < 4 then σ 13 i else σ 12 (i - 4)) kp b) (hr : ∀ a, a < 56 → a ≠ 12 → a ≠ 13 → σ2 a = σ1 a) (hd : ∀ k, k < 14 → σ2 12 k = N (4 + k)) (hi : ∀ i, i < 4 → σ2 13 i = N i) : IC0 σ2 (chV V kp N) nL nA nS (k0 kp + 1) nb := by
  obtain ⟨h1, h2, h3, h4, h5, h6, h8, h9, h10, h11, h12⟩ := h
  have c : ∀ a, a < 12 → σ2 a = σ a := fun a ha => (hr a (by omega) (by omega) (by omega)).trans (hs a (by omega))
  unfold IC0
  simp only [v_lo, v_le, v_ni, v_ca, v_dy, chV_2, chV_1, chV_4, chV_7]
  refine ⟨by rw [c 2 (by omega)]; exact h1, by rw [c 3 (by omega), c 4 (by omega), c 5 (by omega)]; exact h2, by rw [c 6 (by omega), c 7 (by omega)]; exact h3, by rw [c 8 (by omega), c 9 (by omega), c 10 (by omega), c 11 (by omega)]; exact h4, hd, hi, by rw [hr 46 (by omega) (by omega) (by omega)]; exact s1, fun b hb => ?_, by rw [c 0 (by omega)]; exact h10, by rw [c 1 (by omega)]; exact h11, by rw [c 0 (by omega)]; simpa [chV] using h12⟩
  rw [hr 47 (by omega) (by omega) (by omega), s2 b hb]
  refine keR_congr hk h9 (fun i hi => ?_) b hb
  by_cases q : i < 4
  · rw [if_pos q]; exact h6 i q
  · rw [if_neg q, h5 (i - 4) (by omega)]
    show V 4 (4 + (i - 4)) = V 4 i
    exact congrArg _ (by omega)
/-- a further scene put, once the row is kept -/
theorem IC0_more {N : Nat → Int32} {k kp' : Nat} {x : Int32} (h : IC0 σ (chV V kp N) nL nA nS kp' nb) : IC0 (fs_u σ 12 k x) (chV V kp (nwN N k x)) nL nA nS kp' nb := by
  unfold IC0 at h ⊢
  simp only [v_lo, v_le, v_ni, v_ca, v_dy, chV_2, chV_1, chV_4, chV_7] at h ⊢
  obtain ⟨h1, h2, h3, h4, h5, h6, h8, h9, h10, h11, h12⟩ := h
  rw [fs_u_ne (show 2 ≠ 12 by decide), fs_u_ne (show 3 ≠ 12 by decide), fs_u_ne (show 4 ≠ 12 by decide), fs_u_ne (show 5 ≠ 12 by decide), fs_u_ne (show 6 ≠ 12 by decide), fs_u_ne (show 7 ≠ 12 by decide), fs_u_ne (show 8 ≠ 12 by decide), fs_u_ne (show 9 ≠ 12 by decide), fs_u_ne (show 10 ≠ 12 by decide), fs_u_ne (show 11 ≠ 12 by decide), fs_u_ne (show 13 ≠ 12 by decide), fs_u_ne (show 46 ≠ 12 by decide), fs_u_ne (show 47 ≠ 12 by decide), fs_u_ne (show 0 ≠ 12 by decide), fs_u_ne (show 1 ≠ 12 by decide)]
  refine ⟨h1, h2, h3, h4, fun j hj => ?_, fun i hi => ?_, h8, h9, h10, h11, ?_⟩
  · simp only [fs_u, fr_, nwN]
    by_cases q : j = k
    · rw [if_pos ⟨trivial, q⟩, if_pos (by omega)]
    · rw [if_neg (fun z => q z.2), if_neg (by omega)]; exact h5 j hj
  · rw [h6 i hi]; simp only [nwN]; rw [if_neg (by omega)]
  · rw [h12]; simp [chV]
theorem reV_N {W : Vt} {N : Nat → Int32} (e2 : W 2 = V 2) (e4 : W 4 = N) (k : Nat) : reV W nS k = reN V N nS k := by
  funext e
  unfold reV reN
  simp only [v_lo, v_ni, v_le, v_ca, v_dy, e2, e4]
theorem okN_put2 (hT : okT V nL nA nS) {N : Nat → Int32} (hN : okN V nS N) {k e : Nat} (hk : k < nS) (he : e < 12) (h0 : reN V N nS k e = 0) : okN V nS (nwN N k (nI e)) := by
  have e2 := chV_2 V 0 N
  have e4 := chV_4 V 0 N
  have := okN_put (V := chV V 0 N) (okT_ch e2 hT) (by rw [e4]; exact okN_ch e2 hN) hk he (by rw [reV_N e2 e4]; exact h0)
  rw [e4] at this
  exact okN_ch (V := chV V 0 N) e2.symm this
end PD7
