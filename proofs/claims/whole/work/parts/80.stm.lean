/-! ===== THE TEXT, pure: statements ===== -/
abbrev Er : Type := Int32 × Nat
/-- told, now, (locations, actors, scenes), settings given, days given -/
abbrev Zt : Type := (Nat → Int32) × (Nat → Int32) × (Nat × Nat × Nat) × Int32 × Bool
def zV (T N : Nat → Int32) : Vt := fun a c => if a = 2 then T c else if a = 4 then N c else 0
theorem zV_2 (T N : Nat → Int32) : zV T N 2 = T := by funext c; simp [zV]
theorem zV_4 (T N : Nat → Int32) : zV T N 4 = N := by funext c; simp [zV]
def okZ (Z : Zt) : Prop := okT (zV Z.1 Z.2.1) Z.2.2.1.1 Z.2.2.1.2.1 Z.2.2.1.2.2 ∧ okN (zV Z.1 Z.2.1) Z.2.2.1.2.2 Z.2.1
def eNew (b : Nat → Nat) (L k : Nat) (T : Nat → Int32) (nL nA : Nat) : Option Er := if isNm b L k = true then (if fndB T (tN b L k) nL 0 = -1 ∧ fndB (fr_ T 12) (tN b L k) nA 0 = -1 then none else some (-14, tS b L k)) else some (-11, tS b L k)
def eInt (b : Nat → Nat) (L lo hi k : Nat) : Option Er := if tK b L k = 2 then (if tV b L k < lo ∨ hi < tV b L k then some (-12, tS b L k) else none) else some (-11, tS b L k)
def eLoc (b : Nat → Nat) (L k : Nat) (T : Nat → Int32) (nL : Nat) : Option Er := if isNm b L k = true then (if fndB T (tN b L k) nL 0 = -1 then some (-13, tS b L k) else none) else some (-11, tS b L k)
def eSem (b : Nat → Nat) (L k : Nat) : Option Er := if tK b L k = 3 then none else some (-11, tS b L k)
def adL (T : Nat → Int32) (n : Nat) (x y z : Int32) : Nat → Int32 := fun j => if j = n then x else if j = 4 + n then y else if j = 8 + n then z else if j = 80 then nI (n + 1) else T j
def adA (T : Nat → Int32) (n : Nat) (x y : Int32) : Nat → Int32 := fun j => if j = 12 + n then x else if j = 18 + n then y else if j = 81 then nI (n + 1) else T j
def adS (T : Nat → Int32) (n : Nat) (x y z w : Int32) : Nat → Int32 := fun j => if j = 24 + n then x else if j = 38 + n then y else if j = 52 + n then z else if j = 66 + n then w else if j = 82 then nI (n + 1) else T j
def adN (N : Nat → Int32) (i : Nat) (x : Int32) : Nat → Int32 := fun j => if j = i then x else N j
def sLoc (b : Nat → Nat) (L k : Nat) (Z : Zt) : Er ⊕ (Zt × Nat) :=
  if Z.2.2.1.1 = 4 then .inl (-17, tS b L k) else
  match eNew b L (tE b L k) Z.1 Z.2.2.1.1 Z.2.2.1.2.1 with
  | some e => .inl e
  | none => match eInt b L 0 9999 (tE b L (tE b L k)) with
    | some e => .inl e
    | none => if tW b L (tE b L (tE b L (tE b L k))) = nI 5 ∨ tW b L (tE b L (tE b L (tE b L k))) = nI 6 then .inr ((adL Z.1 Z.2.2.1.1 (tN b L (tE b L k)) (nI (tV b L (tE b L (tE b L k)))) (bI (decide (tW b L (tE b L (tE b L (tE b L k))) = nI 5))), Z.2.1, (Z.2.2.1.1 + 1, Z.2.2.1.2.1, Z.2.2.1.2.2), Z.2.2.2.1, Z.2.2.2.2), tE b L (tE b L (tE b L (tE b L k)))) else .inl (-11, tS b L (tE b L (tE b L (tE b L k))))
def sAct (b : Nat → Nat) (L k : Nat) (Z : Zt) : Er ⊕ (Zt × Nat) :=
  if Z.2.2.1.2.1 = 6 then .inl (-17, tS b L k) else
  match eNew b L (tE b L k) Z.1 Z.2.2.1.1 Z.2.2.1.2.1 with
  | some e => .inl e
  | none => match eInt b L 0 9999 (tE b L (tE b L k)) with
    | some e => .inl e
    | none => .inr ((adA Z.1 Z.2.2.1.2.1 (tN b L (tE b L k)) (nI (tV b L (tE b L (tE b L k)))), Z.2.1, (Z.2.2.1.1, Z.2.2.1.2.1 + 1, Z.2.2.1.2.2), Z.2.2.2.1, Z.2.2.2.2), tE b L (tE b L (tE b L k)))
def pCast (b : Nat → Nat) (L : Nat) (T : Nat → Int32) (nA : Nat) : Nat → Nat → Int32 → Er ⊕ (Int32 × Nat)
  | 0, k, c => .inr (c, k)
  | n + 1, k, c => if tK b L k = 3 then .inr (c, k) else if isNm b L k = true then (if fndB (fr_ T 12) (tN b L k) nA 0 = -1 then .inl (-13, tS b L k) else if bt c (fndB (fr_ T 12) (tN b L k) nA 0).toNatClampNeg = true then .inl (-14, tS b L k) else pCast b L T nA n (tE b L k) (c ||| 1 <<< (fndB (fr_ T 12) (tN b L k) nA 0 &&& 31))) else .inl (-11, tS b L k)
/-- where the cast begins, behind the length at k -/
def nK (b : Nat → Nat) (L k : Nat) : Nat := if tW b L k = nI 7 then tE b L k else k
def sScn (b : Nat → Nat) (L k : Nat) (Z : Zt) : Er ⊕ (Zt × Nat) :=
  if Z.2.2.1.2.2 = 14 then .inl (-17, tS b L k) else
  match eLoc b L (tE b L k) Z.1 Z.2.2.1.1 with
  | some e => .inl e
  | none => match eInt b L 1 60 (tE b L (tE b L k)) with
    | some e => .inl e
    | none => match pCast b L Z.1 Z.2.2.1.2.1 7 (nK b L (tE b L (tE b L (tE b L k)))) 0 with
      | .inl e => .inl e
      | .inr (c, k') => .inr ((adS Z.1 Z.2.2.1.2.2 (fndB Z.1 (tN b L (tE b L k)) Z.2.2.1.1 0) (nI (tV b L (tE b L (tE b L k)))) (bI (decide (tW b L (tE b L (tE b L (tE b L k))) = nI 7))) c, Z.2.1, (Z.2.2.1.1, Z.2.2.1.2.1, Z.2.2.1.2.2 + 1), Z.2.2.2.1, Z.2.2.2.2), k')
def loS (i : Nat) : Nat := match i with | 0 => 1 | 3 => 1 | _ => 0
def hiS (i : Nat) : Nat := match i with | 0 => 99 | 1 => 9999 | 2 => 100 | _ => 12
/-- which setting the token at k names -/
def tI (b : Nat → Nat) (L k : Nat) : Option Nat := if 8 ≤ (tW b L k).toNatClampNeg then some ((tW b L k).toNatClampNeg - 8) else none
def sSet (b : Nat → Nat) (L k : Nat) (Z : Zt) : Er ⊕ (Zt × Nat) :=
  if Z.2.2.2.2 = true then .inl (-15, tS b L k) else
  match tI b L (tE b L k) with
  | none => .inl (-11, tS b L (tE b L k))
  | some i => if bt Z.2.2.2.1 i = true then .inl (-14, tS b L (tE b L k)) else
    match eInt b L (loS i) (hiS i) (tE b L (tE b L k)) with
    | some e => .inl e
    | none => .inr ((Z.1, adN Z.2.1 i (nI (tV b L (tE b L (tE b L k)))), Z.2.2.1, Z.2.2.2.1 ||| 1 <<< (nI i &&& 31), Z.2.2.2.2), tE b L (tE b L (tE b L k)))
def reP (T N : Nat → Int32) (nS k e : Nat) : Int32 := rmF (fr_ T 24) (fr_ T 52) (fr_ T 38) (fr_ T 66) (N 0) (fr_ N 4) nS k e
/-- one scene of a day -/
def eScn (b : Nat → Nat) (L : Nat) (T : Nat → Int32) (nS day k : Nat) (N : Nat → Int32) : Option Er := if tK b L k = 2 then (if nS ≤ tV b L k then some (-12, tS b L k) else if N (4 + tV b L k) = -1 then (if reP T N nS (tV b L k) day = 0 then none else some (-16, tS b L k)) else some (-14, tS b L k)) else some (-11, tS b L k)
def pDays (b : Nat → Nat) (L : Nat) (T : Nat → Int32) (nS day : Nat) : Nat → Nat → (Nat → Int32) → Er ⊕ ((Nat → Int32) × Nat)
  | 0, k, N => .inr (N, k)
  | n + 1, k, N => match eScn b L T nS day k N with
    | some e => .inl e
    | none => if tK b L (tE b L k) = 3 then .inr (nwN N (tV b L k) (nI day), tE b L k) else pDays b L T nS day n (tE b L k) (nwN N (tV b L k) (nI day))
def sDay (b : Nat → Nat) (L k : Nat) (Z : Zt) : Er ⊕ (Zt × Nat) :=
  match eInt b L 0 11 (tE b L k) with
  | some e => .inl e
  | none => match pDays b L Z.1 Z.2.2.1.2.2 (tV b L (tE b L k)) 15 (tE b L (tE b L k)) Z.2.1 with
    | .inl e => .inl e
    | .inr (N, k') => .inr ((Z.1, N, Z.2.2.1, Z.2.2.2.1, true), k')
def pSem (b : Nat → Nat) (L : Nat) (o : Er ⊕ (Zt × Nat)) : Er ⊕ (Zt × Nat) := match o with
  | .inl e => .inl e
  | .inr (Z, k) => match eSem b L k with
    | some e => .inl e
    | none => .inr (Z, tE b L k)
def pStm (b : Nat → Nat) (L k : Nat) (Z : Zt) : Er ⊕ (Zt × Nat) :=
  if tW b L k = nI 0 then pSem b L (sLoc b L k Z) else if tW b L k = nI 1 then pSem b L (sAct b L k Z) else if tW b L k = nI 2 then pSem b L (sScn b L k Z) else if tW b L k = nI 3 then pSem b L (sSet b L k Z) else if tW b L k = nI 4 then pSem b L (sDay b L k Z) else .inl (-11, tS b L k)
def pTxt (b : Nat → Nat) (L : Nat) : Nat → Nat → Zt → Nat → Er ⊕ (Zt × Nat)
  | 0, _, Z, c => .inr (Z, c)
  | n + 1, k, Z, c => if tK b L k = 0 then .inr (Z, c) else match pStm b L k Z with
    | .inl e => .inl e
    | .inr (Z', k') => pTxt b L n k' Z' (c + 1)
/-! ranges are kept -/
theorem fndB_or {f : Nat → Int32} {x : Int32} : ∀ n k, fndB f x n k = -1 ∨ ∃ j, k ≤ j ∧ j < k + n ∧ fndB f x n k = nI j
  | 0, k => Or.inl rfl
  | n + 1, k => by
    simp only [fndB]
    split
    · exact Or.inr ⟨k, Nat.le_refl _, by omega, rfl⟩
    · rcases fndB_or (f := f) (x := x) n (k + 1) with w | ⟨j, h1, h2, h3⟩
      · exact Or.inl w
      · exact Or.inr ⟨j, by omega, by omega, h3⟩
theorem okN_T {T T' N N' : Nat → Int32} {nS : Nat} {M : Nat → Int32} (h : okN (zV T N) nS M) (e : ∀ j, 24 ≤ j → j < 80 → T' j = T j) (hn : nS ≤ 14) : okN (zV T' N') nS M := by
  obtain ⟨h1, h2, h3, h4, h5, h6, h7⟩ := h
  simp only [v_lo, v_ni, v_ca, zV_2] at h6 h7
  refine ⟨h1, h2, h3, h4, h5, ?_, ?_⟩
  · simp only [v_lo, v_ni, zV_2]
    intro i j f hi hj hf e1 e2
    have := h6 i j f hi hj hf e1 e2
    simp only [fr_] at this ⊢
    rw [e (24 + i) (by omega) (by omega), e (24 + j) (by omega) (by omega), e (52 + i) (by omega) (by omega), e (52 + j) (by omega) (by omega)]
    exact this
  · simp only [v_ni, v_ca, zV_2]
    intro j hj
    have := h7 j hj
    rw [pnF_congr (fun _ _ => rfl) (fun k hk => show fr_ T' 52 k = fr_ T 52 k from e (52 + k) (by omega) (by omega)), pnF_congr (fun _ _ => rfl) (fun k hk => show fr_ T' 52 k = fr_ T 52 k from e (52 + k) (by omega) (by omega)), caF_congr (fun _ _ => rfl) (fun k hk => show fr_ T' 66 k = fr_ T 66 k from e (66 + k) (by omega) (by omega)), caF_congr (fun _ _ => rfl) (fun k hk => show fr_ T' 66 k = fr_ T 66 k from e (66 + k) (by omega) (by omega))]
    exact this
theorem anF_last {dy : Nat → Int32} {e : Nat} : ∀ {n k : Nat}, ¬ dy (k + n) = nI e → anF dy e (n + 1) k = anF dy e n k
  | 0, k, h => by simp only [anF]; rw [if_neg (show ¬ dy k = nI e from h)]
  | n + 1, k, h => by
    have ih := anF_last (dy := dy) (e := e) (n := n) (k := k + 1) (by rw [show k + 1 + n = k + (n + 1) by omega]; exact h)
    rw [anF, ih]
    rfl
section PW1
variable {T N : Nat → Int32} {nL nA nS : Nat} {gs : Int32} {dg : Bool}
theorem okZ_loc (h : okZ (T, N, (nL, nA, nS), gs, dg)) (hL : nL < 4) {x : Int32} {y : Nat} (hy : y ≤ 9999) {q : Bool} : okZ (adL T nL x (nI y) (bI q), N, (nL + 1, nA, nS), gs, dg) := by
  obtain ⟨⟨t1, t2, t3, t4, t5, t6, t7, t8, t9, t10, t11, t12, t13⟩, hN⟩ := h
  simp only [v_lo, v_le, v_ni, v_ca, zV_2] at t1 t2 t3 t4 t5 t6 t7 t8 t9 t10 t11 t12 t13 hN
  have c : ∀ j, 12 ≤ j → j ≠ 80 → adL T nL x (nI y) (bI q) j = T j := fun j h1 h2 => by unfold adL; rw [if_neg (by omega), if_neg (by omega), if_neg (by omega), if_neg h2]
  refine ⟨?_, okN_T hN (fun j h1 h2 => c j (by omega) (by omega)) t6⟩
  unfold okT
  simp only [v_lo, v_le, v_ni, v_ca, zV_2]
  refine ⟨?_, by rw [c 81 (by decide) (by decide)]; exact t2, by rw [c 82 (by decide) (by decide)]; exact t3, by omega, t5, t6, ?_, ?_, ?_, ?_, ?_, ?_, ?_⟩
  · unfold adL; rw [if_neg (by omega), if_neg (by omega), if_neg (by omega), if_pos rfl]
  · intro k hk
    show adL T nL x (nI y) (bI q) (8 + k) = 0 ∨ adL T nL x (nI y) (bI q) (8 + k) = 1
    by_cases w : k = nL
    · unfold adL; rw [if_neg (by omega), if_neg (by omega), if_pos (by omega)]; exact bI01 q
    · unfold adL; rw [if_neg (by omega), if_neg (by omega), if_neg (by omega), if_neg (by omega)]; exact t7 k hk
  · intro k hk; show adL _ _ _ _ _ (52 + k) = 0 ∨ adL _ _ _ _ _ (52 + k) = 1; rw [c (52 + k) (by omega) (by omega)]; exact t8 k hk
  · intro k hk; show ∃ l, l < nL + 1 ∧ adL _ _ _ _ _ (24 + k) = nI l; rw [c (24 + k) (by omega) (by omega)]; obtain ⟨l, h1, h2⟩ := t9 k hk; exact ⟨l, by omega, h2⟩
  · intro k hk; show ∃ e, 1 ≤ e ∧ e ≤ 60 ∧ adL _ _ _ _ _ (38 + k) = nI e; rw [c (38 + k) (by omega) (by omega)]; exact t10 k hk
  · intro k hk; show ∀ i, nA ≤ i → bt (adL _ _ _ _ _ (66 + k)) i = false; rw [c (66 + k) (by omega) (by omega)]; exact t11 k hk
  · intro l hl
    by_cases w : l = nL
    · refine ⟨y, hy, ?_⟩; unfold adL; rw [if_neg (by omega), if_pos (by omega)]
    · have e : adL T nL x (nI y) (bI q) (4 + l) = T (4 + l) := by unfold adL; rw [if_neg (by omega), if_neg (by omega), if_neg (by omega), if_neg (by omega)]
      rw [e]; exact t12 l (by omega)
  · intro a ha; rw [c (18 + a) (by omega) (by omega)]; exact t13 a ha
theorem okZ_act (h : okZ (T, N, (nL, nA, nS), gs, dg)) (hA : nA < 6) {x : Int32} {y : Nat} (hy : y ≤ 9999) : okZ (adA T nA x (nI y), N, (nL, nA + 1, nS), gs, dg) := by
  obtain ⟨⟨t1, t2, t3, t4, t5, t6, t7, t8, t9, t10, t11, t12, t13⟩, hN⟩ := h
  simp only [v_lo, v_le, v_ni, v_ca, zV_2] at t1 t2 t3 t4 t5 t6 t7 t8 t9 t10 t11 t12 t13 hN
  have c : ∀ j, j < 12 ∨ 24 ≤ j → j ≠ 81 → adA T nA x (nI y) j = T j := fun j h1 h2 => by unfold adA; rw [if_neg (by omega), if_neg (by omega), if_neg h2]
  refine ⟨?_, okN_T hN (fun j h1 h2 => c j (by omega) (by omega)) t6⟩
  unfold okT
  simp only [v_lo, v_le, v_ni, v_ca, zV_2]
  refine ⟨by rw [c 80 (by omega) (by decide)]; exact t1, ?_, by rw [c 82 (by omega) (by decide)]; exact t3, t4, by omega, t6, ?_, ?_, ?_, ?_, ?_, ?_, ?_⟩
  · unfold adA; rw [if_neg (by omega), if_neg (by omega), if_pos rfl]
  · intro k hk; show adA _ _ _ _ (8 + k) = 0 ∨ adA _ _ _ _ (8 + k) = 1; rw [c (8 + k) (by omega) (by omega)]; exact t7 k hk
  · intro k hk; show adA _ _ _ _ (52 + k) = 0 ∨ adA _ _ _ _ (52 + k) = 1; rw [c (52 + k) (by omega) (by omega)]; exact t8 k hk
  · intro k hk; show ∃ l, l < nL ∧ adA _ _ _ _ (24 + k) = nI l; rw [c (24 + k) (by omega) (by omega)]; exact t9 k hk
  · intro k hk; show ∃ e, 1 ≤ e ∧ e ≤ 60 ∧ adA _ _ _ _ (38 + k) = nI e; rw [c (38 + k) (by omega) (by omega)]; exact t10 k hk
  · intro k hk i hi; show bt (adA _ _ _ _ (66 + k)) i = false; rw [c (66 + k) (by omega) (by omega)]; exact t11 k hk i (by omega)
  · intro l hl; rw [c (4 + l) (by omega) (by omega)]; exact t12 l hl
  · intro a ha
    by_cases w : a = nA
    · refine ⟨y, hy, ?_⟩; unfold adA; rw [if_neg (by omega), if_pos (by omega)]
    · have e : adA T nA x (nI y) (18 + a) = T (18 + a) := by unfold adA; rw [if_neg (by omega), if_neg (by omega), if_neg (by omega)]
      rw [e]; exact t13 a (by omega)
theorem okZ_scn (h : okZ (T, N, (nL, nA, nS), gs, dg)) (hS : nS < 14) {l y : Nat} (hl : l < nL) (hy1 : 1 ≤ y) (hy : y ≤ 60) {q : Bool} {c : Int32} (hc : ∀ i, nA ≤ i → bt c i = false) : okZ (adS T nS (nI l) (nI y) (bI q) c, N, (nL, nA, nS + 1), gs, dg) := by
  obtain ⟨⟨t1, t2, t3, t4, t5, t6, t7, t8, t9, t10, t11, t12, t13⟩, hN⟩ := h
  simp only [v_lo, v_le, v_ni, v_ca, zV_2] at t1 t2 t3 t4 t5 t6 t7 t8 t9 t10 t11 t12 t13
  have k0 : ∀ j, j < 24 ∨ j = 80 ∨ j = 81 → adS T nS (nI l) (nI y) (bI q) c j = T j := fun j h1 => by unfold adS; rw [if_neg (by omega), if_neg (by omega), if_neg (by omega), if_neg (by omega), if_neg (by omega)]
  have kr : ∀ o j, j < nS → (o = 24 ∨ o = 38 ∨ o = 52 ∨ o = 66) → adS T nS (nI l) (nI y) (bI q) c (o + j) = T (o + j) := fun o j h1 h2 => by unfold adS; rw [if_neg (by omega), if_neg (by omega), if_neg (by omega), if_neg (by omega), if_neg (by omega)]
  have e24 : adS T nS (nI l) (nI y) (bI q) c (24 + nS) = nI l := by unfold adS; rw [if_pos rfl]
  have e38 : adS T nS (nI l) (nI y) (bI q) c (38 + nS) = nI y := by unfold adS; rw [if_neg (by omega), if_pos rfl]
  have e52 : adS T nS (nI l) (nI y) (bI q) c (52 + nS) = bI q := by unfold adS; rw [if_neg (by omega), if_neg (by omega), if_pos rfl]
  have e66 : adS T nS (nI l) (nI y) (bI q) c (66 + nS) = c := by unfold adS; rw [if_neg (by omega), if_neg (by omega), if_neg (by omega), if_pos rfl]
  refine ⟨?_, ?_⟩
  · unfold okT
    simp only [v_lo, v_le, v_ni, v_ca, zV_2]
    refine ⟨by rw [k0 80 (by omega)]; exact t1, by rw [k0 81 (by omega)]; exact t2, ?_, t4, t5, by omega, ?_, ?_, ?_, ?_, ?_, ?_, ?_⟩
    · unfold adS; rw [if_neg (by omega), if_neg (by omega), if_neg (by omega), if_neg (by omega), if_pos rfl]
    · intro k hk; show adS _ _ _ _ _ _ (8 + k) = 0 ∨ adS _ _ _ _ _ _ (8 + k) = 1; rw [k0 (8 + k) (by omega)]; exact t7 k hk
    · intro k hk
      show adS _ _ _ _ _ _ (52 + k) = 0 ∨ adS _ _ _ _ _ _ (52 + k) = 1
      by_cases w : k = nS
      · rw [w, e52]; exact bI01 q
      · rw [kr 52 k (by omega) (by omega)]; exact t8 k (by omega)
    · intro k hk
      show ∃ l', l' < nL ∧ adS _ _ _ _ _ _ (24 + k) = nI l'
      by_cases w : k = nS
      · rw [w, e24]; exact ⟨l, hl, rfl⟩
      · rw [kr 24 k (by omega) (by omega)]; exact t9 k (by omega)
    · intro k hk
      show ∃ e, 1 ≤ e ∧ e ≤ 60 ∧ adS _ _ _ _ _ _ (38 + k) = nI e
      by_cases w : k = nS
      · rw [w, e38]; exact ⟨y, hy1, hy, rfl⟩
      · rw [kr 38 k (by omega) (by omega)]; exact t10 k (by omega)
    · intro k hk
      show ∀ i, nA ≤ i → bt (adS _ _ _ _ _ _ (66 + k)) i = false
      by_cases w : k = nS
      · rw [w, e66]; exact hc
      · rw [kr 66 k (by omega) (by omega)]; exact t11 k (by omega)
    · intro l hl; rw [k0 (4 + l) (by omega)]; exact t12 l hl
    · intro a ha; rw [k0 (18 + a) (by omega)]; exact t13 a ha
  · obtain ⟨h1, h2, h3, h4, h5, h6, h7⟩ := hN
    simp only [v_lo, v_ni, v_ca, zV_2] at h6 h7
    have h5' : ∀ k, k < 14 → N (4 + k) = -1 ∨ (k < nS ∧ ∃ e, e < 12 ∧ N (4 + k) = nI e) := h5
    have hm : ∀ e, e < 12 → ¬ N (4 + nS) = nI e := fun e he z => by
      rcases h5' nS hS with w | ⟨w, -⟩
      · rw [w] at z; exact m1_nI he z
      · omega
    refine ⟨h1, h2, h3, h4, fun k hk => (h5' k hk).imp id (fun z => ⟨Nat.lt_succ_of_lt z.1, z.2⟩), ?_, ?_⟩
    · simp only [v_lo, v_ni, zV_2]
      intro i j f hi hj hf a1 a2
      have n1 : i ≠ nS := fun z => hm f hf (by rw [z] at a1; exact a1)
      have n2 : j ≠ nS := fun z => hm f hf (by rw [z] at a2; exact a2)
      have := h6 i j f (by omega) (by omega) hf a1 a2
      simp only [fr_] at this ⊢
      rw [kr 24 i (by omega) (by omega), kr 24 j (by omega) (by omega), kr 52 i (by omega) (by omega), kr 52 j (by omega) (by omega)]
      exact this
    · simp only [v_ni, v_ca, zV_2]
      have pn : ∀ e, e < 12 → pnF (fr_ N 4) (fr_ (adS T nS (nI l) (nI y) (bI q) c) 52) (nS + 1) e = pnF (fr_ N 4) (fr_ T 52) nS e := by
        intro e he
        have ha : anF (fr_ N 4) e (nS + 1) 0 = anF (fr_ N 4) e nS 0 := anF_last (by rw [Nat.zero_add]; exact hm e he)
        unfold pnF
        rw [ha]
        cases w : anF (fr_ N 4) e nS 0 with
        | none => rfl
        | some k => exact kr 52 k (anF_some w).1 (by omega)
      have ca : ∀ e, e < 12 → caF (fr_ N 4) (fr_ (adS T nS (nI l) (nI y) (bI q) c) 66) e (nS + 1) = caF (fr_ N 4) (fr_ T 66) e nS := by
        intro e he
        simp only [caF]
        rw [if_neg (show ¬ fr_ N 4 nS = nI e from hm e he)]
        exact caF_congr (fun _ _ => rfl) (fun k hk => kr 66 k hk (by omega))
      intro j hj
      rw [pn j (by omega), pn (j + 1) (by omega), ca j (by omega), ca (j + 1) (by omega)]
      exact h7 j hj
theorem okZ_set (h : okZ (T, N, (nL, nA, nS), gs, dg)) {i y : Nat} (hi : i < 4) (h1 : loS i ≤ y) (h2 : y ≤ hiS i) {gs' : Int32} : okZ (T, adN N i (nI y), (nL, nA, nS), gs', dg) := by
  obtain ⟨hT, ⟨n1, n2, n3, n4, n5, n6, n7⟩⟩ := h
  simp only [v_lo, v_ni, v_ca, zV_2] at n6 n7
  refine ⟨okT_ch (by rw [zV_2, zV_2]) hT, ?_⟩
  have e4 : ∀ j, 4 ≤ j → adN N i (nI y) j = N j := fun j hj => by unfold adN; rw [if_neg (by omega)]
  have ef : fr_ (adN N i (nI y)) 4 = fr_ N 4 := funext fun j => e4 (4 + j) (by omega)
  have ne : ∀ j, j ≠ i → adN N i (nI y) j = N j := fun j hj => by unfold adN; rw [if_neg hj]
  have eq : adN N i (nI y) i = nI y := by unfold adN; rw [if_pos rfl]
  unfold okN
  simp only [v_lo, v_ni, v_ca, zV_2, ef]
  refine ⟨?_, ?_, ?_, ?_, fun k hk => by rw [e4 (4 + k) (by omega)]; exact n5 k hk, n6, n7⟩
  · by_cases w : i = 0
    · subst w; rw [eq]; exact ⟨y, h1, h2, rfl⟩
    · rw [ne 0 (by omega)]; exact n1
  · by_cases w : i = 1
    · subst w; rw [eq]; exact ⟨y, h2, rfl⟩
    · rw [ne 1 (by omega)]; exact n2
  · by_cases w : i = 2
    · subst w; rw [eq]; exact ⟨y, h2, rfl⟩
    · rw [ne 2 (by omega)]; exact n3
  · by_cases w : i = 3
    · subst w; rw [eq]; exact ⟨y, h1, h2, rfl⟩
    · rw [ne 3 (by omega)]; exact n4
theorem okZ_day (h : okZ (T, N, (nL, nA, nS), gs, dg)) {k e : Nat} (hk : k < nS) (he : e < 12) (h0 : reP T N nS k e = 0) {dg' : Bool} : okZ (T, nwN N k (nI e), (nL, nA, nS), gs, dg') := by
  obtain ⟨hT, hN⟩ := h
  refine ⟨okT_ch (by rw [zV_2, zV_2]) hT, ?_⟩
  have := okN_put2 (V := zV T N) hT hN hk he (by unfold reN; simp only [v_lo, v_ni, v_le, v_ca, zV_2]; exact h0)
  exact okN_ch (by rw [zV_2, zV_2]) this
end PW1
