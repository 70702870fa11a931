/-! ===== the search: what an order costs, step by step ===== -/
def raN (V : Vt) (l : Nat) : Nat := (V 2 (4 + l)).toNatClampNeg
def feN (V : Vt) (a : Nat) : Nat := (V 2 (18 + a)).toNatClampNeg
def hfN (V : Vt) (a : Nat) : Nat := feN V a * (V 4 2).toNatClampNeg / 100
def drN (V : Vt) : Nat := (V 4 3).toNatClampNeg
def mvN (V : Vt) : Nat := (V 4 1).toNatClampNeg
def plO (V : Vt) (nS j : Nat) : Int32 := plF (v_dy V) (v_lo V) nS (owV V nS j)
def pnO (V : Vt) (nS j : Nat) : Int32 := pnF (v_dy V) (v_ni V) nS (owV V nS j)
def caO (V : Vt) (nS j : Nat) : Int32 := caF (v_dy V) (v_ca V) (owV V nS j) nS
def rbO (V : Vt) (nS j : Nat) : Nat := raN V (plO V nS j).toNatClampNeg
def FXV (V : Vt) (nA nS : Nat) : Nat := smN (rbO V nS) (nDV V nS) + smN (fun a => feN V a * ct (v_wk V nS a) 12) nA
def mbV (V : Vt) (nS : Nat) (r : Nat → Nat) (i : Nat) : Nat := if i = 0 ∨ plO V nS (r (i - 1)) = plO V nS (r i) then 0 else 1
def mvP (V : Vt) (nS : Nat) (r : Nat → Nat) (p : Nat) : Nat := smN (mbV V nS r) p
def wN (f : Nat → Bool) : Nat → Nat
  | 0 => 0
  | p + 1 => wN f p + (if f p then 2 ^ p else 0)
def wkO (V : Vt) (nS : Nat) (r : Nat → Nat) (a i : Nat) : Bool := bt (caO V nS (r i)) a
def hoP (V : Vt) (nA nS : Nat) (r : Nat → Nat) (p : Nat) : Nat := smN (fun a => hfN V a * hcN (drN V) (wN (wkO V nS r a) p)) nA
def cwP (V : Vt) (nA nS : Nat) (r : Nat → Nat) (p : Nat) : Nat := FXV V nA nS + mvN V * mvP V nS r p
def cpN (V : Vt) (nA nS : Nat) (r : Nat → Nat) (p : Nat) : Nat := cwP V nA nS r p + hoP V nA nS r p
def clO (V : Vt) (nS i j : Nat) : Prop := pnO V nS i = 1 ∧ ¬ pnO V nS j = 1 ∧ ¬ caO V nS i &&& caO V nS j = 0
theorem wN_lt (f : Nat → Bool) : ∀ p, wN f p < 2 ^ p
  | 0 => by simp [wN]
  | p + 1 => by
    have := wN_lt f p
    have e : (2 : Nat) ^ (p + 1) = 2 ^ p * 2 := Nat.pow_succ ..
    simp only [wN]
    split <;> omega
theorem wN_congr {f h : Nat → Bool} : ∀ p, (∀ i, i < p → f i = h i) → wN f p = wN h p
  | 0, _ => rfl
  | p + 1, e => by simp only [wN]; rw [wN_congr p (fun i hi => e i (by omega)), e p (by omega)]
theorem wN_bit (f : Nat → Bool) : ∀ p k, (wN f p).testBit k = (decide (k < p) && f k)
  | 0, k => by simp [wN]
  | p + 1, k => by
    have hlt := wN_lt f p
    simp only [wN]
    by_cases q : f p = true
    · rw [if_pos q, Nat.add_comm]
      rcases Nat.lt_trichotomy k p with w | w | w
      · rw [Nat.testBit_two_pow_add_gt w, wN_bit f p k]
        simp [w, Nat.lt_succ_of_lt w]
      · subst w
        rw [Nat.testBit_two_pow_add_eq, Nat.testBit_lt_two_pow hlt]
        simp [q]
      · have e : (2 : Nat) ^ (p + 1) = 2 ^ p * 2 := Nat.pow_succ ..
        have h3 : (2 : Nat) ^ (p + 1) ≤ 2 ^ k := Nat.pow_le_pow_right (by decide) w
        rw [Nat.testBit_lt_two_pow (show 2 ^ p + wN f p < 2 ^ k by omega)]
        simp [show ¬ k < p + 1 by omega]
    · rw [if_neg q, Nat.add_zero, wN_bit f p k]
      by_cases w : k = p
      · subst w; simp [Bool.not_eq_true _ ▸ q]
      · simp [show k < p + 1 ↔ k < p by omega]
theorem bt_nI (x : Nat) {k : Nat} (hk : k < 32) : bt (nI x) k = x.testBit k := by
  show (BitVec.ofNat 32 x).getLsbD k = _
  rw [BitVec.getLsbD_ofNat]
  simp [hk]
theorem bt_wN (f : Nat → Bool) (p : Nat) {k : Nat} (hk : k < 32) : bt (nI (wN f p)) k = (decide (k < p) && f k) := by rw [bt_nI _ hk, wN_bit]
theorem wN_x (f : Nat → Bool) {p : Nat} (hp : p < 32) (h : f p = true) : nI (wN f p) ^^^ 1 <<< (nI p &&& 31) = nI (wN f (p + 1)) := by
  refine bt_ext (fun k hk => ?_)
  rw [bt_xor, bt_one hp hk, bt_wN f p hk, bt_wN f (p + 1) hk]
  by_cases w : k = p
  · subst w; simp [h]
  · simp [w, show k < p + 1 ↔ k < p by omega]
theorem wN_x2 (f : Nat → Bool) {p : Nat} (hp : p < 32) (h : f p = true) : nI (wN f (p + 1)) ^^^ 1 <<< (nI p &&& 31) = nI (wN f p) := by
  refine bt_ext (fun k hk => ?_)
  rw [bt_xor, bt_one hp hk, bt_wN f p hk, bt_wN f (p + 1) hk]
  by_cases w : k = p
  · subst w; simp [h]
  · simp [w, show k < p + 1 ↔ k < p by omega]
theorem wN_s (f : Nat → Bool) (p : Nat) (h : f p = false) : wN f (p + 1) = wN f p := by simp [wN, h]
theorem hc_wN {D : Nat} (h1 : 1 ≤ D) (h2 : D ≤ 12) (f : Nat → Bool) {p : Nat} (hp : p < 7) : hcN D (wN f p) ≤ hcN D (wN f (p + 1)) := by
  simp only [wN]
  split
  · have := hc_mono (D - 1) (by omega) p hp (wN f p) (wN_lt f p)
    rw [show D - 1 + 1 = D by omega] at this
    exact this
  · exact Nat.le_refl _
theorem ct_cut (f : Nat → Bool) (n : Nat) : ∀ k, ct (fun e => decide (e < n) && f e) (n + k) = ct f n
  | 0 => ct_congr (fun e he => by simp [show e < n from he])
  | k + 1 => by rw [show n + (k + 1) = (n + k) + 1 from rfl, ct_s, ct_cut f n k]; simp [show ¬ n + k < n by omega]
theorem anF_iff2 {dy dy' : Nat → Int32} {e e' : Nat} : ∀ {n k : Nat}, (∀ j, j < k + n → (dy j = nI e ↔ dy' j = nI e')) → anF dy e n k = anF dy' e' n k
  | 0, _, _ => rfl
  | n + 1, k, h => by
    simp only [anF]
    have h1 := h k (by omega)
    rw [anF_iff2 (n := n) (k := k + 1) (fun j hj => h j (by omega))]
    by_cases q : dy k = nI e
    · rw [if_pos q, if_pos (h1.mp q)]
    · rw [if_neg q, if_neg (fun z => q (h1.mpr z))]
theorem caF_iff2 {dy dy' ca : Nat → Int32} {e e' : Nat} : ∀ {n : Nat}, (∀ j, j < n → (dy j = nI e ↔ dy' j = nI e')) → caF dy ca e n = caF dy' ca e' n
  | 0, _ => rfl
  | n + 1, h => by
    simp only [caF]
    have h1 := h n (by omega)
    rw [caF_iff2 (n := n) (fun j hj => h j (by omega))]
    by_cases q : dy n = nI e
    · rw [if_pos q, if_pos (h1.mp q)]
    · rw [if_neg q, if_neg (fun z => q (h1.mpr z))]
theorem mvM_end {pl : Nat → Int32} : ∀ t k la c, (∀ e, k ≤ e → e < k + t → pl e = -1) → mvM pl t k la c = c
  | 0, _, _, _, _ => rfl
  | t + 1, k, la, c, h => by simp only [mvM]; rw [if_pos (h k (by omega) (by omega))]; exact mvM_end t (k + 1) la c (fun e h1 h2 => h e (by omega) (by omega))
theorem rtM_end {pl ra : Nat → Int32} : ∀ t k s, (∀ e, k ≤ e → e < k + t → pl e = -1) → rtM pl ra t k s = s
  | 0, _, _, _ => rfl
  | t + 1, k, s, h => by simp only [rtM]; rw [if_pos (h k (by omega) (by omega))]; exact rtM_end t (k + 1) s (fun e h1 h2 => h e (by omega) (by omega))
theorem mvM_sm {pl : Nat → Int32} {mb : Nat → Nat} {n t : Nat} (h1 : ∀ e, e < n → ¬ pl e = -1) (h2 : ∀ e, n ≤ e → e < n + t → pl e = -1) (hb : ∀ i, i < n → mb i = if i = 0 ∨ pl (i - 1) = pl i then 0 else 1) : ∀ m k la, k + m = n → la = (if k = 0 then -1 else pl (k - 1)) → mvM pl (m + t) k la (nI (smN mb k)) = nI (smN mb n)
  | 0, k, la, hk, hla => by
    rw [Nat.zero_add, mvM_end t k la _ (fun e w1 w2 => h2 e (by omega) (by omega)), show k = n by omega]
  | m + 1, k, la, hk, hla => by
    rw [show m + 1 + t = (m + t) + 1 by omega]
    simp only [mvM]
    rw [if_neg (h1 k (by omega))]
    have e : (if la = -1 then nI (smN mb k) else if pl k = la then nI (smN mb k) else nI (smN mb k) + 1) = nI (smN mb (k + 1)) := by
      simp only [smN]
      rw [hb k (by omega)]
      by_cases q : k = 0
      · rw [hla, if_pos q, if_pos rfl, if_pos (Or.inl q), Nat.add_zero]
      · rw [hla, if_neg q, if_neg (h1 (k - 1) (by omega))]
        by_cases w : pl k = pl (k - 1)
        · rw [if_pos w, if_pos (Or.inr w.symm), Nat.add_zero]
        · rw [if_neg w, if_neg (fun z => by rcases z with z | z; exact q z; exact w z.symm), nI_1]
    rw [e]
    exact mvM_sm h1 h2 hb m (k + 1) (pl k) (by omega) (by rw [if_neg (by omega)]; rfl)
theorem rtM_sm {pl ra : Nat → Int32} {rb : Nat → Nat} {n t s : Nat} (h1 : ∀ e, e < n → ¬ pl e = -1 ∧ ra (pl e).toNatClampNeg = nI (rb e)) (h2 : ∀ e, n ≤ e → e < n + t → pl e = -1) : ∀ m k, k + m = n → rtM pl ra (m + t) k (nI (s + smN rb k)) = nI (s + smN rb n)
  | 0, k, hk => by
    rw [Nat.zero_add, rtM_end t k _ (fun e w1 w2 => h2 e (by omega) (by omega)), show k = n by omega]
  | m + 1, k, hk => by
    rw [show m + 1 + t = (m + t) + 1 by omega]
    simp only [rtM]
    rw [if_neg (h1 k (by omega)).1, (h1 k (by omega)).2, nI_add, show s + smN rb k + rb k = s + smN rb (k + 1) by simp only [smN]; omega]
    exact rtM_sm h1 h2 m (k + 1) (by omega)
theorem paF_sm {p : Nat → Int32} {pb : Nat → Nat} {s : Nat} : ∀ m k, (∀ a, a < k + m → p a = nI (pb a)) → paF p m k (nI (s + smN pb k)) = nI (s + smN pb (k + m))
  | 0, k, _ => rfl
  | m + 1, k, h => by
    simp only [paF]
    rw [h k (by omega), nI_add, show s + smN pb k + pb k = s + smN pb (k + 1) by simp only [smN]; omega, paF_sm m (k + 1) (fun a ha => h a (by omega)), show k + 1 + m = k + (m + 1) by omega]
section PS1
variable {V : Vt} {nL nA nS : Nat} {r : Nat → Nat}
theorem ow_lt {i : Nat} (h : i < nDV V nS) : owV V nS i < 12 ∧ ocV V nS (owV V nS i) = true ∧ ct (ocV V nS) (owV V nS i) = i := owG_spec _ 12 i h
theorem ow_inj {i j : Nat} (hi : i < nDV V nS) (hj : j < nDV V nS) (h : owV V nS i = owV V nS j) : i = j := by
  have h1 := (ow_lt hi).2.2
  have h2 := (ow_lt hj).2.2
  rw [h] at h1
  omega
theorem oc_no {e : Nat} (h : ocV V nS e = false) : plF (v_dy V) (v_lo V) nS e = -1 ∧ caF (v_dy V) (v_ca V) e nS = 0 ∧ anF (v_dy V) e nS 0 = none := by
  have : anF (v_dy V) e nS 0 = none := by
    unfold ocV at h
    cases q : anF (v_dy V) e nS 0 with
    | none => rfl
    | some k => rw [q] at h; exact absurd h (by simp)
  exact ⟨by unfold plF; rw [this], caF_no (anF_none.mp this), this⟩
theorem oc_yes (hT : okT V nL nA nS) {e : Nat} (h : ocV V nS e = true) : (∃ l, l < nL ∧ plF (v_dy V) (v_lo V) nS e = nI l) ∧ ∃ k, k < nS ∧ v_dy V k = nI e := by
  unfold ocV at h
  unfold plF
  cases q : anF (v_dy V) e nS 0 with
  | none => rw [q] at h; exact absurd h (by decide)
  | some k =>
    obtain ⟨h1, h2⟩ := anF_some q
    exact ⟨hT.2.2.2.2.2.2.2.2.1 k h1, k, h1, h2⟩
/-- the new days -/
theorem stR_day (hN : okN V nS (V 4)) (hn : nS ≤ 14) (h7 : nDV V nS ≤ 7) (hp : pmB r (nDV V nS) = true) (hr : ∀ i, i < nDV V nS → r i < nDV V nS) {k : Nat} (hk : k < nS) :
    (∀ i, i < nDV V nS → (fr_ (stR V nS r) 4 k = nI i ↔ v_dy V k = nI (owV V nS (r i)))) ∧ (∀ e, nDV V nS ≤ e → e < 12 → ¬ fr_ (stR V nS r) 4 k = nI e) := by
  have e : fr_ (stR V nS r) 4 k = sdF (v_dy V k) (fun i => owV V nS (r i)) (nDV V nS) := by
    show stR V nS r (4 + k) = _
    unfold stR
    rw [if_pos (by omega)]
    rfl
  rw [e]
  refine ⟨fun i hi => ⟨fun h => ?_, fun h => ?_⟩, fun f hf hf2 h => ?_⟩
  · rcases sdF_or (v_dy V k) (fun i => owV V nS (r i)) (nDV V nS) with w | ⟨j, h1, h2, h3⟩
    · rw [w] at h; exact absurd h (m1_nI (by omega))
    · rw [h2] at h
      have : j = i := (nI_eq (by omega) (by omega)).mp h
      rw [← this]
      exact h3
  · refine sdF_at (r := fun i => owV V nS (r i)) h _ hi (fun j hj hx => ?_)
    rw [h] at hx
    have h1 := (ow_lt (hr i hi)).1
    have h2 := (ow_lt (hr j hj)).1
    exact (pm_inj hp hi hj (ow_inj (hr i hi) (hr j hj) ((nI_eq (by omega) (by omega)).mp hx))).symm
  · rcases sdF_or (v_dy V k) (fun i => owV V nS (r i)) (nDV V nS) with w | ⟨j, h1, h2, h3⟩
    · rw [w] at h; exact absurd h (m1_nI (by omega))
    · rw [h2] at h
      have : j = f := (nI_eq (by omega) (by omega)).mp h
      omega
theorem stR_tab (hN : okN V nS (V 4)) (hn : nS ≤ 14) (h7 : nDV V nS ≤ 7) (hp : pmB r (nDV V nS) = true) (hr : ∀ i, i < nDV V nS → r i < nDV V nS) :
    (∀ i, i < nDV V nS → plF (fr_ (stR V nS r) 4) (v_lo V) nS i = plO V nS (r i) ∧ pnF (fr_ (stR V nS r) 4) (v_ni V) nS i = pnO V nS (r i) ∧ caF (fr_ (stR V nS r) 4) (v_ca V) i nS = caO V nS (r i)) ∧
    (∀ e, nDV V nS ≤ e → e < 12 → plF (fr_ (stR V nS r) 4) (v_lo V) nS e = -1 ∧ pnF (fr_ (stR V nS r) 4) (v_ni V) nS e = 0 ∧ caF (fr_ (stR V nS r) 4) (v_ca V) e nS = 0) := by
  refine ⟨fun i hi => ?_, fun e he he2 => ?_⟩
  · have ha : anF (fr_ (stR V nS r) 4) i nS 0 = anF (v_dy V) (owV V nS (r i)) nS 0 := anF_iff2 (fun j hj => (stR_day hN hn h7 hp hr (show j < nS by omega)).1 i hi)
    refine ⟨?_, ?_, ?_⟩
    · unfold plO plF; rw [ha]
    · unfold pnO pnF; rw [ha]
    · exact caF_iff2 (fun j hj => (stR_day hN hn h7 hp hr hj).1 i hi)
  · have ha : ∀ k, k < nS → ¬ fr_ (stR V nS r) 4 k = nI e := fun k hk => (stR_day hN hn h7 hp hr hk).2 e he he2
    have hz := anF_none.mpr ha
    refine ⟨?_, ?_, caF_no ha⟩
    · unfold plF; rw [hz]
    · unfold pnF; rw [hz]
theorem pl_yes (hT : okT V nL nA nS) {j : Nat} (hj : j < nDV V nS) : ∃ l, l < nL ∧ plO V nS j = nI l := (oc_yes hT (ow_lt hj).2.1).1
theorem ra_yes (hT : okT V nL nA nS) {j : Nat} (hj : j < nDV V nS) : fr_ (V 2) 4 (plO V nS j).toNatClampNeg = nI (rbO V nS j) := by
  obtain ⟨l, hl, e⟩ := pl_yes hT hj
  have h4 := hT.2.2.2.1
  obtain ⟨x, hx, ex⟩ := hT.2.2.2.2.2.2.2.2.2.2.2.1 l hl
  unfold rbO raN
  rw [e, nI_clamp (by omega)]
  show V 2 (4 + l) = _
  rw [ex, nI_clamp (by omega)]
theorem fe_yes (hT : okT V nL nA nS) {a : Nat} (ha : a < nA) : V 2 (18 + a) = nI (feN V a) ∧ feN V a ≤ 9999 := by
  obtain ⟨x, hx, ex⟩ := hT.2.2.2.2.2.2.2.2.2.2.2.2 a ha
  unfold feN
  rw [ex, nI_clamp (by omega)]
  exact ⟨rfl, hx⟩
theorem st_yes (hN : okN V nS (V 4)) : V 4 1 = nI (mvN V) ∧ mvN V ≤ 9999 ∧ V 4 3 = nI (drN V) ∧ 1 ≤ drN V ∧ drN V ≤ 12 ∧ ∃ c, c ≤ 100 ∧ V 4 2 = nI c ∧ ∀ a, hfN V a = feN V a * c / 100 := by
  obtain ⟨-, ⟨b, hb, eb⟩, ⟨c, hc, ec⟩, ⟨D, hD1, hD2, eD⟩, -⟩ := hN
  unfold mvN drN hfN
  rw [eb, ec, eD, nI_clamp (by omega), nI_clamp (by omega), nI_clamp (by omega)]
  exact ⟨rfl, hb, rfl, hD1, hD2, c, hc, rfl, fun _ => rfl⟩
theorem hf_yes (hT : okT V nL nA nS) (hN : okN V nS (V 4)) {a : Nat} (ha : a < nA) : V 2 (18 + a) * V 4 2 / 100 = nI (hfN V a) ∧ hfN V a ≤ 9999 := by
  obtain ⟨-, -, -, -, -, c, hc, ec, hf⟩ := st_yes hN
  obtain ⟨e1, e2⟩ := fe_yes hT ha
  have hb : feN V a * c ≤ 9999 * 100 := Nat.mul_le_mul e2 hc
  rw [e1, ec, hf a, pk_mul, show (100 : Int32) = nI 100 from rfl, pk_div (by omega) (by decide) (by decide)]
  exact ⟨rfl, by omega⟩
/-- the cost of an order -/
theorem co_cp (hT : okT V nL nA nS) (hN : okN V nS (V 4)) (h7 : nDV V nS ≤ 7) (hp : pmB r (nDV V nS) = true) (hr : ∀ i, i < nDV V nS → r i < nDV V nS) : coV V nA nS (fr_ (stR V nS r) 4) = nI (cpN V nA nS r (nDV V nS)) := by
  have hn := hT.2.2.2.2.2.1
  obtain ⟨t1, t2⟩ := stR_tab hN hn h7 hp hr
  obtain ⟨em, hm, eD, hD1, hD2, -⟩ := st_yes hN
  have hpl : ∀ e, e < nDV V nS → ¬ plF (fr_ (stR V nS r) 4) (v_lo V) nS e = -1 := by
    intro e he
    obtain ⟨l, hl, q⟩ := pl_yes hT (hr e he)
    rw [(t1 e he).1, q]
    exact m1n (by have := hT.2.2.2.1; omega)
  have e1 := mvM_sm (t := 12 - nDV V nS) (mb := mbV V nS r) hpl (fun e h1 h2 => (t2 e h1 (by omega)).1) (fun i hi => by
    unfold mbV
    by_cases q : i = 0
    · rw [if_pos (Or.inl q), if_pos (Or.inl q)]
    · rw [(t1 (i - 1) (by omega)).1, (t1 i hi).1]) (nDV V nS) 0 (-1) (by omega) rfl
  rw [show nDV V nS + (12 - nDV V nS) = 12 by omega] at e1
  have e1' : mvM (plF (fr_ (stR V nS r) 4) (v_lo V) nS) 12 0 (-1) 0 = nI (smN (mbV V nS r) (nDV V nS)) := e1
  have e2 := rtM_sm (t := 12 - nDV V nS) (ra := fr_ (V 2) 4) (rb := fun i => rbO V nS (r i)) (s := mvP V nS r (nDV V nS) * mvN V) (pl := plF (fr_ (stR V nS r) 4) (v_lo V) nS) (fun e he => ⟨hpl e he, by rw [(t1 e he).1]; exact ra_yes hT (hr e he)⟩) (fun e h1 h2 => (t2 e h1 (by omega)).1) (nDV V nS) 0 (by omega)
  rw [show nDV V nS + (12 - nDV V nS) = 12 by omega] at e2
  have hbit : ∀ a e, e < 12 → wkF (fun e => caF (fr_ (stR V nS r) 4) (v_ca V) e nS) a e = (decide (e < nDV V nS) && wkO V nS r a e) := by
    intro a e he
    show bt (caF (fr_ (stR V nS r) 4) (v_ca V) e nS) a = (_ && bt (caO V nS (r e)) a)
    by_cases q : e < nDV V nS
    · rw [(t1 e q).2.2]; simp [q]
    · rw [(t2 e (by omega) he).2.2, bt_zero]; simp [q]
  have hwk : ∀ a, ct (wkF (fun e => caF (fr_ (stR V nS r) 4) (v_ca V) e nS) a) 12 = ct (v_wk V nS a) 12 := by
    intro a
    have s1 := smN_ow (ocV V nS) (fun e => if v_wk V nS a e = true then 1 else 0) 12 12 (Nat.le_refl _)
    have s2 := smN_pm hp hr (fun j => if v_wk V nS a (owV V nS j) = true then 1 else 0)
    have s3 : smN (fun e => if ocV V nS e = true then (if v_wk V nS a e = true then 1 else 0) else 0) 12 = ct (v_wk V nS a) 12 := by
      rw [← smN_ct]
      refine smN_congr (fun e he => ?_)
      cases q : ocV V nS e with
      | true => simp
      | false =>
        have : v_wk V nS a e = false := by show bt (caF (v_dy V) (v_ca V) e nS) a = false; rw [(oc_no q).2.1, bt_zero]
        simp [this]
    have s4 : ct (wkF (fun e => caF (fr_ (stR V nS r) 4) (v_ca V) e nS) a) 12 = smN (fun i => if v_wk V nS a (owV V nS (r i)) = true then 1 else 0) (nDV V nS) := by
      rw [ct_congr (hbit a)]
      have e12 := ct_cut (wkO V nS r a) (nDV V nS) (12 - nDV V nS)
      rw [show nDV V nS + (12 - nDV V nS) = 12 by omega] at e12
      rw [e12, ← smN_ct]
      rfl
    rw [s4, s2, ← s3, ← s1]
    rfl
  have hhe : ∀ a, ct (heB (wkF (fun e => caF (fr_ (stR V nS r) 4) (v_ca V) e nS) a) (nI (drN V))) 12 = hcN (drN V) (wN (wkO V nS r a) (nDV V nS)) := by
    intro a
    unfold hcN
    refine ct_congr (fun k hk => heB_congr (fun e he => ?_) hk)
    rw [hbit a e he, bt_wN _ _ (by omega)]
  unfold coV cmM
  rw [em, e1', pk_mul]
  have e2' : rtM (plF (fr_ (stR V nS r) 4) (v_lo V) nS) (fr_ (V 2) 4) 12 0 (nI (smN (mbV V nS r) (nDV V nS) * mvN V)) = nI (mvP V nS r (nDV V nS) * mvN V + smN (fun i => rbO V nS (r i)) (nDV V nS)) := e2
  rw [e2']
  have e3 := paF_sm (p := fun a => prM (fr_ (V 2) 18 a) (V 4 2) (V 4 3) (wkF (fun e => caF (fr_ (stR V nS r) 4) (v_ca V) e nS) a)) (pb := fun a => feN V a * ct (v_wk V nS a) 12 + hfN V a * hcN (drN V) (wN (wkO V nS r a) (nDV V nS))) (s := mvP V nS r (nDV V nS) * mvN V + smN (fun i => rbO V nS (r i)) (nDV V nS)) nA 0 (fun a ha => by
    have ha' : a < nA := by omega
    obtain ⟨f1, f2⟩ := fe_yes hT ha'
    obtain ⟨g1, g2⟩ := hf_yes hT hN ha'
    have f1' : fr_ (V 2) 18 a = nI (feN V a) := f1
    unfold prM heM
    rw [f1', ← f1, g1, f1, eD, ds_work _ hD1 hD2, ds_held _ hD1 hD2, hwk a, hhe a, pk_mul, pk_mul, nI_add, Nat.mul_comm (ct _ _), Nat.mul_comm (hcN _ _)])
  rw [show mvP V nS r (nDV V nS) * mvN V + smN (fun i => rbO V nS (r i)) (nDV V nS) + smN (fun a => feN V a * ct (v_wk V nS a) 12 + hfN V a * hcN (drN V) (wN (wkO V nS r a) (nDV V nS))) 0 = mvP V nS r (nDV V nS) * mvN V + smN (fun i => rbO V nS (r i)) (nDV V nS) from rfl] at e3
  rw [e3, Nat.zero_add, smN_add, smN_pm hp hr (rbO V nS)]
  refine congrArg nI ?_
  unfold cpN cwP FXV hoP
  rw [Nat.mul_comm (mvN V)]
  omega
theorem cp_mono (hN : okN V nS (V 4)) {p : Nat} (hp : p < 7) : cpN V nA nS r p ≤ cpN V nA nS r (p + 1) := by
  obtain ⟨-, -, -, hD1, hD2, -⟩ := st_yes hN
  have h1 : mvP V nS r p ≤ mvP V nS r (p + 1) := by unfold mvP; simp only [smN]; omega
  have h2 : hoP V nA nS r p ≤ hoP V nA nS r (p + 1) := smN_le (fun a ha => Nat.mul_le_mul_left _ (hc_wN hD1 hD2 _ hp))
  have h3 : mvN V * mvP V nS r p ≤ mvN V * mvP V nS r (p + 1) := Nat.mul_le_mul_left _ h1
  unfold cpN cwP
  omega
theorem cp_le (hN : okN V nS (V 4)) : ∀ k p, p + k ≤ 7 → cpN V nA nS r p ≤ cpN V nA nS r (p + k)
  | 0, p, _ => Nat.le_refl _
  | k + 1, p, h => Nat.le_trans (cp_le hN k p (by omega)) (cp_mono hN (by omega))
theorem smN_bd {f : Nat → Nat} {B : Nat} : ∀ n, (∀ k, k < n → f k ≤ B) → smN f n ≤ n * B
  | 0, _ => by simp [smN]
  | n + 1, h => by
    have := smN_bd (f := f) (B := B) n (fun k hk => h k (by omega))
    have := h n (by omega)
    simp only [smN, Nat.add_mul, Nat.one_mul]
    omega
theorem mb_le (i : Nat) : mbV V nS r i ≤ 1 := by unfold mbV; split <;> omega
theorem fx_le (hT : okT V nL nA nS) (h7 : nDV V nS ≤ 7) : FXV V nA nS ≤ 7 * 9999 + 6 * 119988 := by
  have h1 : smN (rbO V nS) (nDV V nS) ≤ nDV V nS * 9999 := smN_bd _ (fun j hj => by
    obtain ⟨l, hl, e⟩ := pl_yes hT hj
    obtain ⟨x, hx, ex⟩ := hT.2.2.2.2.2.2.2.2.2.2.2.1 l hl
    have := hT.2.2.2.1
    unfold rbO raN
    rw [e, nI_clamp (by omega), ex, nI_clamp (by omega)]
    exact hx)
  have h2 : smN (fun a => feN V a * ct (v_wk V nS a) 12) nA ≤ nA * 119988 := smN_bd _ (fun a ha => by
    have := Nat.mul_le_mul (fe_yes hT ha).2 (ct_le (v_wk V nS a) 12)
    omega)
  have := hT.2.2.2.2.1
  unfold FXV
  have h3 : nDV V nS * 9999 ≤ 7 * 9999 := Nat.mul_le_mul_right _ h7
  have h4 : nA * 119988 ≤ 6 * 119988 := Nat.mul_le_mul_right _ this
  omega
theorem cp_bd (hT : okT V nL nA nS) (hN : okN V nS (V 4)) (h7 : nDV V nS ≤ 7) {p : Nat} (hp : p ≤ 7) : cwP V nA nS r p ≤ 1000000 ∧ hoP V nA nS r p ≤ 1000000 := by
  have h1 := fx_le hT h7
  have h2 : mvP V nS r p ≤ p * 1 := smN_bd _ (fun i _ => mb_le i)
  have h3 : hoP V nA nS r p ≤ nA * 119988 := smN_bd _ (fun a ha => by
    have := Nat.mul_le_mul (hf_yes hT hN ha).2 (ct_le (heB (bt (nI (wN (wkO V nS r a) p))) (nI (drN V))) 12)
    unfold hcN
    omega)
  obtain ⟨-, hm, -⟩ := st_yes hN
  have h4 : nA * 119988 ≤ 6 * 119988 := Nat.mul_le_mul_right _ hT.2.2.2.2.1
  have h5 : mvN V * mvP V nS r p ≤ 9999 * 7 := Nat.mul_le_mul hm (by omega)
  unfold cwP
  omega
/-- whether an order keeps the turnarounds -/
theorem gd_iff (hT : okT V nL nA nS) (hN : okN V nS (V 4)) (h7 : nDV V nS ≤ 7) (hp : pmB r (nDV V nS) = true) (hr : ∀ i, i < nDV V nS → r i < nDV V nS) : rsM (pnF (fr_ (stR V nS r) 4) (v_ni V) nS) (fun e => caF (fr_ (stR V nS r) 4) (v_ca V) e nS) 11 0 = true ↔ ∀ i, i + 1 < nDV V nS → ¬ clO V nS (r i) (r (i + 1)) := by
  obtain ⟨t1, t2⟩ := stR_tab hN hT.2.2.2.2.2.1 h7 hp hr
  rw [rsM_iff]
  constructor
  · intro h i hi ⟨c1, c2, c3⟩
    refine h i (by omega) (by omega) ?_
    rw [(t1 i (by omega)).2.1, (t1 (i + 1) hi).2.1, (t1 i (by omega)).2.2, (t1 (i + 1) hi).2.2]
    exact ⟨c1, c2, c3⟩
  · intro h j _ hj ⟨c1, c2, c3⟩
    by_cases q : j + 1 < nDV V nS
    · rw [(t1 j (by omega)).2.1] at c1
      rw [(t1 (j + 1) q).2.1] at c2
      rw [(t1 j (by omega)).2.2, (t1 (j + 1) q).2.2] at c3
      exact h j q ⟨c1, c2, c3⟩
    · rw [(t2 (j + 1) (by omega) (by omega)).2.2] at c3
      exact c3 (by simp)
theorem cp_congr {r' : Nat → Nat} {p : Nat} (h : ∀ i, i < p → r i = r' i) : cpN V nA nS r p = cpN V nA nS r' p ∧ cwP V nA nS r p = cwP V nA nS r' p ∧ hoP V nA nS r p = hoP V nA nS r' p := by
  have h1 : mvP V nS r p = mvP V nS r' p := smN_congr (fun i hi => by
    unfold mbV
    by_cases q : i = 0
    · rw [if_pos (Or.inl q), if_pos (Or.inl q)]
    · rw [h i hi, h (i - 1) (by omega)])
  have h2 : hoP V nA nS r p = hoP V nA nS r' p := smN_congr (fun a _ => by
    rw [wN_congr p (fun i hi => show wkO V nS r a i = wkO V nS r' a i by unfold wkO; rw [h i hi])])
  unfold cpN cwP
  rw [h1, h2]
  exact ⟨rfl, rfl, rfl⟩
end PS1
