/-! ===== THE COMMON VALUE V of both sides: V 2 told, V 4 now, V 7 past, V 1 bytes, V 0 the counters (2 bytes, 9 kept, 18 last error) ===== -/
/-- what is told, in its ranges -/
def okT (V : Vt) (nL nA nS : Nat) : Prop := V 2 80 = nI nL ∧ V 2 81 = nI nA ∧ V 2 82 = nI nS ∧ nL ≤ 4 ∧ nA ≤ 6 ∧ nS ≤ 14 ∧ b01 (fr_ (V 2) 8) 4 ∧ b01 (v_ni V) nS ∧ (∀ k, k < nS → ∃ l, l < nL ∧ v_lo V k = nI l) ∧ (∀ k, k < nS → ∃ e, 1 ≤ e ∧ e ≤ 60 ∧ v_le V k = nI e) ∧ (∀ k, k < nS → ∀ i, nA ≤ i → bt (v_ca V k) i = false) ∧ (∀ l, l < nL → ∃ x, x ≤ 9999 ∧ V 2 (4 + l) = nI x) ∧ (∀ a, a < nA → ∃ x, x ≤ 9999 ∧ V 2 (18 + a) = nI x)
/-- a row of settings and days, in its ranges, that keeps the rules -/
def okN (V : Vt) (nS : Nat) (N : Nat → Int32) : Prop := (∃ c, 1 ≤ c ∧ c ≤ 99 ∧ N 0 = nI c) ∧ (∃ c, c ≤ 9999 ∧ N 1 = nI c) ∧ (∃ c, c ≤ 100 ∧ N 2 = nI c) ∧ (∃ c, 1 ≤ c ∧ c ≤ 12 ∧ N 3 = nI c) ∧ (∀ k, k < 14 → N (4 + k) = -1 ∨ (k < nS ∧ ∃ e, e < 12 ∧ N (4 + k) = nI e)) ∧ cons (fr_ N 4) (v_lo V) (v_ni V) nS ∧ rested (fr_ N 4) (v_ni V) (v_ca V) nS
def okV (V : Vt) (nL nA nS kp nb : Nat) : Prop := okT V nL nA nS ∧ okN V nS (V 4) ∧ V 0 9 = nI kp ∧ kp ≤ 12 ∧ (∀ i, i < kp → okN V nS (fr_ (V 7) (18 * i))) ∧ V 0 2 = nI nb ∧ nb ≤ 900 ∧ ∀ i, i < nb → ∃ x, x < 256 ∧ V 1 i = nI x
/-- the reference holds V, at 56 -/
def IM (σ : Nat → Nat → Int32) (V : Vt) (kp nb : Nat) : Prop := σ 58 = V 2 ∧ σ 60 = V 4 ∧ (∀ b, b < 18 * kp → σ 63 b = V 7 b) ∧ (∀ i, i < nb → σ 57 i = V 1 i) ∧ σ 56 2 = V 0 2 ∧ σ 56 9 = V 0 9 ∧ σ 56 18 = V 0 18
/-- the search's own result, if it is known -/
def srK (σ : Nat → Nat → Int32) (V : Vt) (nA nS : Nat) : Prop := σ 50 5 = bcV V nA nS ∧ (nDV V nS ≤ 7 → σ 50 0 = nI (nDV V nS) ∧ ∀ m, bsV V nA nS = some m → ∀ i, i < nDV V nS → σ 51 i = nI (owV V nS (rwN (nDV V nS) m i)))
def srch (σ : Nat → Nat → Int32) (V : Vt) (nA nS : Nat) : Prop := σ 50 4 = 0 ∨ (σ 50 4 = 1 ∧ srK σ V nA nS)
/-- the class holds V -/
def IC (σ : Nat → Nat → Int32) (V : Vt) (nL nA nS kp nb : Nat) : Prop :=
  (σ 2 0 = nI nL ∧ σ 2 4 = nI nA ∧ σ 2 7 = nI nS) ∧
  (∀ l, l < nL → σ 3 l = V 2 l ∧ σ 4 l = V 2 (4 + l) ∧ σ 5 l = V 2 (8 + l)) ∧
  (∀ a, a < nA → σ 6 a = V 2 (12 + a) ∧ σ 7 a = V 2 (18 + a)) ∧
  (∀ k, k < nS → σ 8 k = v_lo V k ∧ σ 9 k = v_le V k ∧ σ 10 k = v_ni V k ∧ σ 11 k = v_ca V k) ∧
  (∀ k, k < 14 → σ 12 k = v_dy V k) ∧ (∀ i, i < 4 → σ 13 i = V 4 i) ∧
  tab σ 14 2 (σ 12) nS ∧ σ 46 0 = nI kp ∧ (∀ b, b < 18 * kp → σ 47 b = V 7 b) ∧
  σ 0 1 = nI nb ∧ (∀ i, i < nb → σ 1 i = (V 1 i).toInt8.toInt32) ∧ σ 0 2 = V 0 18 ∧ srch σ V nA nS
/-- the shape of all cells -/
def shX (S : List fs_Sh) : Prop := S[0]? = some (.inr (7, [some (some 1), none, none, some (some 2), some (some 14), some (some 20), some (some 26), some (some 46), some (some 48), some (some 50)])) ∧ S[1]? = some (.inl (.byte, 900)) ∧ shP S 2 ∧ shD S 14 2 ∧ shD S 20 2 ∧
  S[46]? = some (.inr (1, [none, some (some 47)])) ∧ S[47]? = some (.inl (.int, 216)) ∧ shR S 48 14 ∧ shM S 56
section PV
variable {g : fs_G} {d : Nat} {S : List fs_Sh} {fr : Bool} {σ : Nat → Nat → Int32} {τ : Nat → Nat → Int64} {V : Vt} {nL nA nS kp nb : Nat}
/-- a question to the class: only cells 0 to 55 may change, and V stays -/
def askC (g : fs_G) (S : List fs_Sh) (fr : Bool) (τ : Nat → Nat → Int64) (V : Vt) (nL nA nS kp nb : Nat) (μ : fs_I) (av : List Value) (x : Int32) : Prop := ∀ σ, IC σ V nL nA nS kp nb → fs_Ct g μ av ((S, fr), σ, τ) (fun r M' => r = some (.int x) ∧ ∃ σ', M' = ((S, fr), σ', τ) ∧ IC σ' V nL nA nS kp nb ∧ ∀ a, 56 ≤ a → σ' a = σ a)
/-- a question to the reference: only cells 56 to 68 may change, and V stays; y: whether it says that it throws -/
def askM (g : fs_G) (S : List fs_Sh) (fr : Bool) (τ : Nat → Nat → Int64) (V : Vt) (kp nb : Nat) (μ : fs_I) (av : List Value) (x y : Int32) : Prop := ∀ σ, IM σ V kp nb → fs_Ct g μ av ((S, fr), σ, τ) (fun r M' => r = some (.int x) ∧ ∃ σ', M' = ((S, fr), σ', τ) ∧ IM σ' V kp nb ∧ (∀ a, a < 56 ∨ 69 ≤ a → σ' a = σ a) ∧ σ' 56 0 = y)
theorem IM.u {a b : Nat} {x : Int32} (h : IM σ V kp nb) (hab : (a = 56 ∧ b ≠ 2 ∧ b ≠ 9 ∧ b ≠ 18) ∨ a = 59 ∨ a = 61 ∨ a = 62 ∨ (64 ≤ a ∧ a ≤ 68)) : IM (fs_u σ a b x) V kp nb := by
  obtain ⟨h1, h2, h3, h4, h5, h6, h7⟩ := h
  refine ⟨?_, ?_, ?_, ?_, ?_, ?_, ?_⟩
  · rw [← h1]; exact fs_u_ne (by omega)
  · rw [← h2]; exact fs_u_ne (by omega)
  · intro c hc; rw [← h3 c hc]; rw [fs_u_ne (show 63 ≠ a by omega)]
  · intro c hc; rw [← h4 c hc]; rw [fs_u_ne (show 57 ≠ a by omega)]
  · rw [← h5]; simp only [fs_u]; rw [if_neg (by omega)]
  · rw [← h6]; simp only [fs_u]; rw [if_neg (by omega)]
  · rw [← h7]; simp only [fs_u]; rw [if_neg (by omega)]
/-- the reference's scratch changed, nothing else -/
theorem IM.sc {σ' : Nat → Nat → Int32} (h : IM σ V kp nb) (hs : ∀ a b, ¬ ((a = 56 ∧ b ≠ 2 ∧ b ≠ 9 ∧ b ≠ 18) ∨ a = 59 ∨ a = 61 ∨ a = 62 ∨ (64 ≤ a ∧ a ≤ 68)) → σ' a b = σ a b) : IM σ' V kp nb := by
  obtain ⟨h1, h2, h3, h4, h5, h6, h7⟩ := h
  have cell : ∀ a, a ≠ 56 → a ≠ 59 → a ≠ 61 → a ≠ 62 → ¬ (64 ≤ a ∧ a ≤ 68) → σ' a = σ a := fun a a1 a2 a3 a4 a5 => funext fun b => hs a b (by omega)
  refine ⟨?_, ?_, ?_, ?_, ?_, ?_, ?_⟩
  · rw [cell 58 (by omega) (by omega) (by omega) (by omega) (by omega)]; exact h1
  · rw [cell 60 (by omega) (by omega) (by omega) (by omega) (by omega)]; exact h2
  · intro c hc; rw [cell 63 (by omega) (by omega) (by omega) (by omega) (by omega)]; exact h3 c hc
  · intro c hc; rw [cell 57 (by omega) (by omega) (by omega) (by omega) (by omega)]; exact h4 c hc
  · rw [hs 56 2 (by omega)]; exact h5
  · rw [hs 56 9 (by omega)]; exact h6
  · rw [hs 56 18 (by omega)]; exact h7
theorem same_lo {σ' : Nat → Nat → Int32} {P : Nat → Prop} (h : same σ σ' P) (hP : ∀ a, P a → 56 ≤ a ∧ a < 69) : ∀ a, a < 56 ∨ 69 ≤ a → σ' a = σ a := fun a ha => h a (fun z => by have := hP a z; omega)
theorem srch.keep {σ' : Nat → Nat → Int32} (h : srch σ V nA nS) (hs : ∀ a, 50 ≤ a → a ≤ 55 → σ' a = σ a) : srch σ' V nA nS := by
  unfold srch srK at h ⊢
  rw [hs 50 (by omega) (by omega), hs 51 (by omega) (by omega)]
  exact h
/-- the trial table and the rain's cells are nobody's -/
theorem IC.keep {σ' : Nat → Nat → Int32} (h : IC σ V nL nA nS kp nb) (hs : ∀ a, a < 56 → ¬ (20 ≤ a ∧ a ≤ 25) → ¬ (a = 48 ∨ a = 49) → σ' a = σ a) : IC σ' V nL nA nS kp nb := by
  obtain ⟨h1, h2, h3, h4, h5, h6, h7, h8, h9, h10, h11, h12, h13⟩ := h
  have c : ∀ a, a < 20 → σ' a = σ a := fun a ha => hs a (by omega) (by omega) (by omega)
  refine ⟨?_, ?_, ?_, ?_, ?_, ?_, ?_, ?_, ?_, ?_, ?_, ?_, ?_⟩
  · rw [c 2 (by omega)]; exact h1
  · rw [c 3 (by omega), c 4 (by omega), c 5 (by omega)]; exact h2
  · rw [c 6 (by omega), c 7 (by omega)]; exact h3
  · rw [c 8 (by omega), c 9 (by omega), c 10 (by omega), c 11 (by omega)]; exact h4
  · rw [c 12 (by omega)]; exact h5
  · rw [c 13 (by omega)]; exact h6
  · intro e he
    have := h7 e he
    rw [c 12 (by omega), c (14 + 1) (by omega), c (14 + 2) (by omega), c (14 + 3) (by omega), c (14 + 4) (by omega), c (14 + 5) (by omega), c (2 + 6) (by omega), c (2 + 8) (by omega), c (2 + 7) (by omega), c (2 + 9) (by omega)]
    exact this
  · rw [hs 46 (by omega) (by omega) (by omega)]; exact h8
  · rw [hs 47 (by omega) (by omega) (by omega)]; exact h9
  · rw [c 0 (by omega)]; exact h10
  · rw [c 1 (by omega)]; exact h11
  · rw [c 0 (by omega)]; exact h12
  · exact h13.keep (fun a h1 h2 => hs a (by omega) (by omega) (by omega))
/-- the table in V's words -/
theorem IC.tb (h : IC σ V nL nA nS kp nb) (hn : nS ≤ 14) : ∀ e, e < 12 → σ 15 e = scF (v_dy V) e nS ∧ σ 16 e = plF (v_dy V) (v_lo V) nS e ∧ σ 17 e = pnF (v_dy V) (v_ni V) nS e ∧ σ 18 e = leF (v_dy V) (v_le V) e nS ∧ σ 19 e = caF (v_dy V) (v_ca V) e nS := by
  obtain ⟨h1, h2, h3, h4, h5, h6, h7, -⟩ := h
  intro e he
  obtain ⟨t1, t2, t3, t4, t5⟩ := h7 e he
  have hd : ∀ k, k < nS → σ 12 k = v_dy V k := fun k hk => h5 k (by omega)
  exact ⟨t1.trans (scF_congr hd), t2.trans (plF_congr hd (fun k hk => (h4 k hk).1)), t3.trans (pnF_congr hd (fun k hk => (h4 k hk).2.2.1)), t4.trans (leF_congr hd (fun k hk => (h4 k hk).2.1)), t5.trans (caF_congr hd (fun k hk => (h4 k hk).2.2.2))⟩
theorem ok_pl (hT : okT V nL nA nS) (hN : okN V nS (V 4)) : ∀ e, e < 12 → (plF (v_dy V) (v_lo V) nS e = -1 ∧ scF (v_dy V) e nS = 0) ∨ ((∃ l, l < nL ∧ plF (v_dy V) (v_lo V) nS e = nI l) ∧ ¬ scF (v_dy V) e nS = 0) := by
  intro e he
  obtain ⟨-, -, -, -, -, hn, -, -, hlo, -⟩ := hT
  unfold plF
  cases q : anF (v_dy V) e nS 0 with
  | none => exact Or.inl ⟨rfl, (scF_an hn).mpr q⟩
  | some k =>
    refine Or.inr ⟨?_, fun z => ?_⟩
    · exact hlo k (anF_some q).1
    · rw [(scF_an hn).mp z] at q; cases q
theorem ok_iff (hT : okT V nL nA nS) (hN : okN V nS (V 4)) : ∀ e, e < 12 → (scF (v_dy V) e nS = 0 ↔ plF (v_dy V) (v_lo V) nS e = -1) := by
  intro e he
  have h4 := hT.2.2.2.1
  rcases ok_pl hT hN e he with ⟨h1, h2⟩ | ⟨⟨l, hl, h1⟩, h2⟩
  · exact ⟨fun _ => h1, fun _ => h2⟩
  · exact ⟨fun z => absurd z h2, fun z => absurd (h1.symm.trans z) (m1n (by omega))⟩
theorem ok_plOK (hT : okT V nL nA nS) (hN : okN V nS (V 4)) : plOK (plF (v_dy V) (v_lo V) nS) := by
  intro e he
  have h4 := hT.2.2.2.1
  rcases ok_pl hT hN e he with ⟨h1, -⟩ | ⟨⟨l, hl, h1⟩, -⟩
  · exact Or.inl h1
  · exact Or.inr ⟨l, by omega, h1⟩
theorem IC.loc (h : IC σ V nL nA nS kp nb) (hT : okT V nL nA nS) (hN : okN V nS (V 4)) : locOK (σ 15) (σ 16) := by
  intro e he h0
  have hn := hT.2.2.2.2.2.1
  have h4 := hT.2.2.2.1
  obtain ⟨t1, t2, -⟩ := h.tb hn e he
  rw [t1] at h0
  rcases ok_pl hT hN e he with ⟨-, h2⟩ | ⟨⟨l, hl, h1⟩, -⟩
  · exact absurd h2 h0
  · exact ⟨l, by omega, t2.trans h1⟩
end PV
