/-! ===== load of the reference ===== -/
def lsM (σ σ' : Nat → Nat → Int32) : Prop := ∀ a c, ¬ ((a = 58 ∧ c < 83) ∨ (a = 60 ∧ c < 18) ∨ (a = 56 ∧ 10 ≤ c ∧ c ≤ 21 ∧ c ≠ 18)) → σ' a c = σ a c
theorem lsM.tr {σ σ1 σ2 : Nat → Nat → Int32} (h : lsM σ σ1) (h2 : lsM σ1 σ2) : lsM σ σ2 := fun a c z => (h2 a c z).trans (h a c z)
theorem lsM.lo {σ σ' : Nat → Nat → Int32} (h : loM σ σ') : lsM σ σ' := fun a c z => h a c (by omega)
theorem lsM.u {σ : Nat → Nat → Int32} {c : Nat} {x : Int32} (h1 : 10 ≤ c) (h2 : c ≤ 21) (h3 : c ≠ 18) : lsM σ (fs_u σ 56 c x) := fun a e z => by
  simp only [fs_u]; rw [if_neg (fun w => z (Or.inr (Or.inr ⟨w.1, by omega, by omega, by omega⟩)))]
def chgN (g : fs_G) (S : List fs_Sh) (fr : Bool) (τ : Nat → Nat → Int64) (V : Vt) (kp nb : Nat) (μ : fs_I) (av : List Value) (x : Int32) (V' : Vt) (kp' nb' : Nat) : Prop := ∀ σ, IM σ V kp nb → fs_Ct g μ av ((S, fr), σ, τ) (fun r M' => r = some (.int x) ∧ ∃ σ', M' = ((S, fr), σ', τ) ∧ IM σ' V' kp' nb' ∧ (∀ a, a < 56 ∨ 69 ≤ a → σ' a = σ a) ∧ σ' 56 0 = 0)
section PRa
variable {g : fs_G} {d : Nat} {S : List fs_Sh} {fr : Bool} {σ : Nat → Nat → Int32} {τ : Nat → Nat → Int64} {b : Nat → Nat} {L : Nat} {Z : Zt} {k : Nat} {o : Option Er} {V : Vt} {nL nA nS kp nb : Nat}
theorem MS.n19 {x : Int32} (h : MS σ b L Z k o) : MS (fs_u σ 56 19 x) b L Z k o := by
  obtain ⟨h1, h2, h3, h4, h5⟩ := h
  obtain ⟨t1, t2, t3⟩ := h1
  have e : ∀ c, c ≠ 19 → fs_u σ 56 19 x 56 c = σ 56 c := fun c hc => by simp only [fs_u]; rw [if_neg (fun z => hc z.2)]
  refine ⟨⟨by rw [e 10 (by decide)]; exact t1, t2, by rw [fs_u_ne (by decide)]; exact t3⟩, by rw [fs_u_ne (by decide)]; exact h2, h3, fun w => ?_, fun e' w => ?_⟩
  · obtain ⟨a1, a2, a3, a4, a5, a6⟩ := h4 w
    exact ⟨a1, a2.fa (fun c _ _ => e c (by omega)), by rw [fs_u_ne (by decide)]; exact a3, by rw [e 20 (by decide)]; exact a4, by rw [e 21 (by decide)]; exact a5, by rw [e 16 (by decide)]; exact a6⟩
  · rw [e 16 (by decide), e 17 (by decide)]; exact h5 e' w
theorem l_nf23 (hM : shM S 56) (σ0 : Nat → Nat → Int32) : ∀ n i σ, i + n = 18 → (∀ a, a ≠ 60 → σ a = σ0 a) → (∀ j, σ 60 j = if j < i then -1 else σ0 60 j) → fs_R g m_X9_newFilm d (0, 0) 23 [.ref 56, .int (nI i)] [] ((S, fr), σ, τ) (fun r M' => r = none ∧ ∃ σ', M' = ((S, fr), σ', τ) ∧ (∀ a, a ≠ 60 → σ' a = σ0 a) ∧ ∀ j, σ' 60 j = if j < 18 then ([24, 100, 50, 4] : List Int32).getD j (-1) else σ0 60 j)
  | 0, i, σ, hi, h1, h2 => by
    have i0 : vp_in 0 18 := pk_in 0 18 (by decide) (by decide) (by decide)
    have i1 : vp_in 1 18 := pk_in 1 18 (by decide) (by decide) (by decide)
    have i2 : vp_in 2 18 := pk_in 2 18 (by decide) (by decide) (by decide)
    have i3 : vp_in 3 18 := pk_in 3 18 (by decide) (by decide) (by decide)
    refine S_X9_newFilm_23 ?_
    simp only [T_X9_newFilm_23, fi_const, fi_iload, fi_aload, fi_istore, fi_astore, fi_iinc, fi_bin, fi_div, fi_un, fi_dup, fi_dup2, fi_pop, fi_if, fi_cmp, fi_getf, fi_putf, fi_putr, fi_ald, fi_ast, fi_alen, fi_iret, fi_zret, fi_vret, fi_cut, fi_no, fi_s0, fi_s1, fi_s2, fi_s3, fi_s4, fi_v0, fi_v1, fi_v2, fi_v3, fi_v4, fi_v5, fi_n0, fi_n1, fi_n2, fi_mm, fi_stat, fi_alds, fi_tsw, List.getElem?_cons_zero, List.getElem?_cons_succ, List.set_cons_zero, List.set_cons_succ, List.length_cons, List.length_nil, Option.toList_some, Option.toList_none, List.cons_append, List.nil_append, Value.category, true_and, k_0, k_1, k_2, k_3, k_4, false_implies, true_implies, reduceCtorEq, hM.1, hM.2.2.2.2.1, show 56 + 4 = 60 from rfl, i0, i1, i2, i3, nar_i]
    refine pk_le 18 i (fun _ => ?_) (fun z => by omega)
    refine ⟨_, rfl, fun a ha => by rw [fs_u_ne ha, fs_u_ne ha, fs_u_ne ha, fs_u_ne ha]; exact h1 a ha, fun j => ?_⟩
    have ei : i = 18 := by omega
    subst ei
    have c0 : (0 : Int32).toNatClampNeg = 0 := rfl
    have c1 : (1 : Int32).toNatClampNeg = 1 := rfl
    have c2 : (2 : Int32).toNatClampNeg = 2 := rfl
    have c3 : (3 : Int32).toNatClampNeg = 3 := rfl
    simp only [fs_u, c0, c1, c2, c3, h2]
    by_cases w3 : j = 3
    · subst w3; rfl
    · rw [if_neg (fun z => w3 z.2)]
      by_cases w2 : j = 2
      · subst w2; rfl
      · rw [if_neg (fun z => w2 z.2)]
        by_cases w1 : j = 1
        · subst w1; rfl
        · rw [if_neg (fun z => w1 z.2)]
          by_cases w0 : j = 0
          · subst w0; rfl
          · rw [if_neg (fun z => w0 z.2)]
            by_cases w : j < 18
            · rw [if_pos w, if_pos w]
              obtain ⟨m, rfl⟩ : ∃ m, j = m + 4 := ⟨j - 4, by omega⟩
              rfl
            · rw [if_neg w, if_neg w]
  | n + 1, i, σ, hi, h1, h2 => by
    have i1 : vp_in (nI i) 18 := vp_in_nI (by omega) (by decide)
    refine S_X9_newFilm_23 ?_
    simp only [T_X9_newFilm_23, fi_const, fi_iload, fi_aload, fi_istore, fi_astore, fi_iinc, fi_bin, fi_div, fi_un, fi_dup, fi_dup2, fi_pop, fi_if, fi_cmp, fi_getf, fi_putf, fi_putr, fi_ald, fi_ast, fi_alen, fi_iret, fi_zret, fi_vret, fi_cut, fi_no, fi_s0, fi_s1, fi_s2, fi_s3, fi_s4, fi_v0, fi_v1, fi_v2, fi_v3, fi_v4, fi_v5, fi_n0, fi_n1, fi_n2, fi_mm, fi_stat, fi_alds, fi_tsw, List.getElem?_cons_zero, List.getElem?_cons_succ, List.set_cons_zero, List.set_cons_succ, List.length_cons, List.length_nil, Option.toList_some, Option.toList_none, List.cons_append, List.nil_append, Value.category, true_and, k_0, k_1, k_2, k_3, k_4, false_implies, true_implies, reduceCtorEq, hM.1, hM.2.2.2.2.1, show 56 + 4 = 60 from rfl, i1, nI_clamp (show i < 2 ^ 31 by omega), nar_i, nI_1]
    refine pk_le 18 i (fun z => by omega) (fun _ => ?_)
    refine l_nf23 hM σ0 n (i + 1) _ (by omega) (fun a ha => by rw [fs_u_ne ha]; exact h1 a ha) (fun j => ?_)
    simp only [fs_u]
    by_cases w : j = i
    · rw [if_pos ⟨trivial, w⟩, if_pos (by omega)]
    · rw [if_neg (fun z => w z.2), h2 j]
      by_cases u : j < i
      · rw [if_pos u, if_pos (by omega)]
      · rw [if_neg u, if_neg (by omega)]
theorem l_nf2 (hM : shM S 56) (σ0 : Nat → Nat → Int32) : ∀ n i σ, i + n = 83 → (∀ a, a ≠ 58 → σ a = σ0 a) → (∀ j, σ 58 j = if j < i then 0 else σ0 58 j) → fs_R g m_X9_newFilm d (0, 0) 2 [.ref 56, .int (nI i)] [] ((S, fr), σ, τ) (fun r M' => r = none ∧ ∃ σ', M' = ((S, fr), σ', τ) ∧ (∀ a, a ≠ 58 → a ≠ 60 → σ' a = σ0 a) ∧ σ' 58 = (Z0 (σ0 58) (σ0 60)).1 ∧ σ' 60 = (Z0 (σ0 58) (σ0 60)).2.1)
  | 0, i, σ, hi, h1, h2 => by
    refine S_X9_newFilm_2 ?_
    simp only [T_X9_newFilm_2, fi_const, fi_iload, fi_aload, fi_istore, fi_astore, fi_iinc, fi_bin, fi_div, fi_un, fi_dup, fi_dup2, fi_pop, fi_if, fi_cmp, fi_getf, fi_putf, fi_putr, fi_ald, fi_ast, fi_alen, fi_iret, fi_zret, fi_vret, fi_cut, fi_no, fi_s0, fi_s1, fi_s2, fi_s3, fi_s4, fi_v0, fi_v1, fi_v2, fi_v3, fi_v4, fi_v5, fi_n0, fi_n1, fi_n2, fi_mm, fi_stat, fi_alds, fi_tsw, List.getElem?_cons_zero, List.getElem?_cons_succ, List.set_cons_zero, List.set_cons_succ, List.length_cons, List.length_nil, Option.toList_some, Option.toList_none, List.cons_append, List.nil_append, Value.category, true_and, k_0, k_1, k_2, k_3, k_4, false_implies, true_implies, reduceCtorEq, hM.1]
    refine pk_le 83 i (fun _ => ?_) (fun z => by omega)
    refine fs_R_mono (l_nf23 hM σ 18 0 σ rfl (fun _ _ => rfl) (fun j => by rw [if_neg (by omega)])) ?_
    rintro r M' ⟨rfl, σ', rfl, f1, f2⟩
    refine ⟨rfl, σ', rfl, fun a a1 a2 => by rw [f1 a a2, h1 a a1], ?_, ?_⟩
    · rw [f1 58 (by decide)]
      funext j
      rw [h2 j, show i = 83 by omega]; rfl
    · funext j
      rw [f2 j, h1 60 (by decide)]; rfl
  | n + 1, i, σ, hi, h1, h2 => by
    have i1 : vp_in (nI i) 83 := vp_in_nI (by omega) (by decide)
    refine S_X9_newFilm_2 ?_
    simp only [T_X9_newFilm_2, fi_const, fi_iload, fi_aload, fi_istore, fi_astore, fi_iinc, fi_bin, fi_div, fi_un, fi_dup, fi_dup2, fi_pop, fi_if, fi_cmp, fi_getf, fi_putf, fi_putr, fi_ald, fi_ast, fi_alen, fi_iret, fi_zret, fi_vret, fi_cut, fi_no, fi_s0, fi_s1, fi_s2, fi_s3, fi_s4, fi_v0, fi_v1, fi_v2, fi_v3, fi_v4, fi_v5, fi_n0, fi_n1, fi_n2, fi_mm, fi_stat, fi_alds, fi_tsw, List.getElem?_cons_zero, List.getElem?_cons_succ, List.set_cons_zero, List.set_cons_succ, List.length_cons, List.length_nil, Option.toList_some, Option.toList_none, List.cons_append, List.nil_append, Value.category, true_and, k_0, k_1, k_2, k_3, k_4, false_implies, true_implies, reduceCtorEq, hM.1, hM.2.2.1, show 56 + 2 = 58 from rfl, i1, nI_clamp (show i < 2 ^ 31 by omega), nar_i, nI_1]
    refine pk_le 83 i (fun z => by omega) (fun _ => ?_)
    refine l_nf2 hM σ0 n (i + 1) _ (by omega) (fun a ha => by rw [fs_u_ne ha]; exact h1 a ha) (fun j => ?_)
    simp only [fs_u]
    by_cases w : j = i
    · rw [if_pos ⟨trivial, w⟩, if_pos (by omega)]
    · rw [if_neg (fun z => w z.2), h2 j]
      by_cases u : j < i
      · rw [if_pos u, if_pos (by omega)]
      · rw [if_neg u, if_neg (by omega)]
theorem c_newFilm (hM : shM S 56) : fs_Ct g m_X9_newFilm [.ref 56] ((S, fr), σ, τ) (fun r M' => r = none ∧ ∃ σ', M' = ((S, fr), σ', τ) ∧ (∀ a, a ≠ 58 → a ≠ 60 → σ' a = σ a) ∧ σ' 58 = (Z0 (σ 58) (σ 60)).1 ∧ σ' 60 = (Z0 (σ 58) (σ 60)).2.1) := by
  refine fs_enterC (by decide) (by simp [fs_ok]) (Nat.le_of_ble_eq_true rfl) (fun d => S_X9_newFilm_0 ?_)
  show T_X9_newFilm_0 g d _ [.ref 56, .null] [] _
  simp only [T_X9_newFilm_0, fi_const, fi_iload, fi_aload, fi_istore, fi_astore, fi_iinc, fi_bin, fi_div, fi_un, fi_dup, fi_dup2, fi_pop, fi_if, fi_cmp, fi_getf, fi_putf, fi_putr, fi_ald, fi_ast, fi_alen, fi_iret, fi_zret, fi_vret, fi_cut, fi_no, fi_s0, fi_s1, fi_s2, fi_s3, fi_s4, fi_v0, fi_v1, fi_v2, fi_v3, fi_v4, fi_v5, fi_n0, fi_n1, fi_n2, fi_mm, fi_stat, fi_alds, fi_tsw, List.getElem?_cons_zero, List.getElem?_cons_succ, List.set_cons_zero, List.set_cons_succ, List.length_cons, List.length_nil, Option.toList_some, Option.toList_none, List.cons_append, List.nil_append, Value.category, true_and, k_0, k_1, k_2, k_3, k_4, false_implies, true_implies, reduceCtorEq]
  exact l_nf2 hM σ 83 0 σ rfl (fun _ _ => rfl) (fun j => by rw [if_neg (by omega)])
theorem l_ld80 (hM : shM S 56) {v : Value} {Q : Option Value → fs_M → Prop} (σ0 : Nat → Nat → Int32) : ∀ n k Z c σ, k ≤ L → L - k < n → c ≤ k → MS σ b L Z k none → lsM σ0 σ → σ 56 19 = nI c →
    (∀ e, pTxt b L n k Z c = .inl e → ∀ σ' Z' k', MS σ' b L Z' k' (some e) → lsM σ0 σ' → fs_R g m_X9_load d (0, 0) 102 [.ref 56, v] [] ((S, fr), σ', τ) Q) →
    (∀ Z' c', pTxt b L n k Z c = .inr (Z', c') → ∀ σ' k', MS σ' b L Z' k' none → lsM σ0 σ' → σ' 56 19 = nI c' → fs_R g m_X9_load d (0, 0) 102 [.ref 56, v] [] ((S, fr), σ', τ) Q) →
    fs_R g m_X9_load d (0, 0) 80 [.ref 56, v] [] ((S, fr), σ, τ) Q
  | 0, k, Z, c, σ, hk, hn, hc, h, h0, h19, Ke, Kz => by omega
  | n + 1, k, Z, c, σ, hk, hn, hc, h, h0, h19, Ke, Kz => by
    have hk4 := tK_le b L k
    have hE := tE_le (b := b) hk
    have hSs := tS_le (b := b) hk
    have e16 := h.e0.mpr rfl
    have hT := (h.2.2.2.1 rfl).2.1
    refine S_X9_load_80 ?_
    simp only [T_X9_load_80, fi_const, fi_iload, fi_aload, fi_istore, fi_astore, fi_iinc, fi_bin, fi_div, fi_un, fi_dup, fi_dup2, fi_pop, fi_if, fi_cmp, fi_getf, fi_putf, fi_putr, fi_ald, fi_ast, fi_alen, fi_iret, fi_zret, fi_vret, fi_cut, fi_no, fi_s0, fi_s1, fi_s2, fi_s3, fi_s4, fi_v0, fi_v1, fi_v2, fi_v3, fi_v4, fi_v5, fi_n0, fi_n1, fi_n2, fi_mm, fi_stat, fi_alds, fi_tsw, List.getElem?_cons_zero, List.getElem?_cons_succ, List.set_cons_zero, List.set_cons_succ, List.length_cons, List.length_nil, Option.toList_some, Option.toList_none, List.cons_append, List.nil_append, Value.category, true_and, k_0, k_1, k_2, k_3, k_4, false_implies, true_implies, reduceCtorEq, hM.1, e16]
    rw [hT.1, kM_0 hk4]
    simp only [pTxt] at Ke Kz
    refine ⟨⟨fun q => ?_, fun q => ?_⟩, fun w => absurd trivial w⟩
    · rw [if_pos q] at Kz
      exact Kz Z c rfl σ k h h0 h19
    · rw [if_neg q] at Ke Kz
      refine ⟨by decide, ⟨_, rfl⟩, (c_readStmtM hM h).mono ?_⟩
      rintro r M' ⟨rfl, σ1, rfl, f1, f2⟩
      have h01 : lsM σ0 (fs_u σ1 56 19 (σ 56 19 + 1)) := (h0.tr (lsM.lo f1)).tr (lsM.u (by decide) (by decide) (by decide))
      cases w : pStm b L k Z with
      | inl e =>
        rw [w] at f2 Ke
        obtain ⟨Z', k', f2⟩ := f2
        have f3 := f2.n19 (x := σ 56 19 + 1)
        have he := f3.e0
        refine S_X9_load_80 ?_
        simp only [T_X9_load_80, fi_const, fi_iload, fi_aload, fi_istore, fi_astore, fi_iinc, fi_bin, fi_div, fi_un, fi_dup, fi_dup2, fi_pop, fi_if, fi_cmp, fi_getf, fi_putf, fi_putr, fi_ald, fi_ast, fi_alen, fi_iret, fi_zret, fi_vret, fi_cut, fi_no, fi_s0, fi_s1, fi_s2, fi_s3, fi_s4, fi_v0, fi_v1, fi_v2, fi_v3, fi_v4, fi_v5, fi_n0, fi_n1, fi_n2, fi_mm, fi_stat, fi_alds, fi_tsw, List.getElem?_cons_zero, List.getElem?_cons_succ, List.set_cons_zero, List.set_cons_succ, List.length_cons, List.length_nil, Option.toList_some, Option.toList_none, List.cons_append, List.nil_append, Value.category, true_and, k_0, k_1, k_2, k_3, k_4, false_implies, true_implies, reduceCtorEq, hM.1]
        exact ⟨fun z => (by cases he.mp z), fun _ => Ke e rfl _ Z' k' f3 h01⟩
      | inr p =>
        obtain ⟨Z', k'⟩ := p
        rw [w] at f2 Ke Kz
        obtain ⟨g1, g2⟩ := pStm_k hk w
        refine l_ld80 hM σ0 n k' Z' (c + 1) _ g2 (by omega) (by omega) f2.n19 h01 ?_ Ke Kz
        rw [u_eq, h19, nI_1]
theorem n_load_2 (hX : shX S) (hV : okV V nL nA nS kp nb) {x : Int32} (hx : x < 0 ∨ nI nb < x) : askM g S fr τ V kp nb m_X9_load [.ref 56, .int x] (-2) 0 := by
  intro σ h
  have hM := hX.m
  have h1 := h.th 0
  have e2 : fs_u σ 56 0 0 56 2 = nI nb := by rw [h1.2.2.2.2.1]; exact hV.2.2.2.2.2.1
  refine fs_enterC (by decide) (by simp [fs_ok]) (Nat.le_of_ble_eq_true rfl) (fun d => S_X9_load_0 ?_)
  show T_X9_load_0 g d _ [.ref 56, .int x] [] _
  simp only [T_X9_load_0, fi_const, fi_iload, fi_aload, fi_istore, fi_astore, fi_iinc, fi_bin, fi_div, fi_un, fi_dup, fi_dup2, fi_pop, fi_if, fi_cmp, fi_getf, fi_putf, fi_putr, fi_ald, fi_ast, fi_alen, fi_iret, fi_zret, fi_vret, fi_cut, fi_no, fi_s0, fi_s1, fi_s2, fi_s3, fi_s4, fi_v0, fi_v1, fi_v2, fi_v3, fi_v4, fi_v5, fi_n0, fi_n1, fi_n2, fi_mm, fi_stat, fi_alds, fi_tsw, List.getElem?_cons_zero, List.getElem?_cons_succ, List.set_cons_zero, List.set_cons_succ, List.length_cons, List.length_nil, Option.toList_some, Option.toList_none, List.cons_append, List.nil_append, Value.category, true_and, k_0, k_1, k_2, k_3, k_4, false_implies, true_implies, reduceCtorEq]
  simp only [fi_const, fi_iload, fi_aload, fi_istore, fi_astore, fi_iinc, fi_bin, fi_div, fi_un, fi_dup, fi_dup2, fi_pop, fi_if, fi_cmp, fi_getf, fi_putf, fi_putr, fi_ald, fi_ast, fi_alen, fi_iret, fi_zret, fi_vret, fi_cut, fi_no, fi_s0, fi_s1, fi_s2, fi_s3, fi_s4, fi_v0, fi_v1, fi_v2, fi_v3, fi_v4, fi_v5, fi_n0, fi_n1, fi_n2, fi_mm, fi_stat, fi_alds, fi_tsw, List.getElem?_cons_zero, List.getElem?_cons_succ, List.set_cons_zero, List.set_cons_succ, List.length_cons, List.length_nil, Option.toList_some, Option.toList_none, List.cons_append, List.nil_append, Value.category, true_and, k_0, k_1, k_2, k_3, k_4, false_implies, true_implies, reduceCtorEq, hM.1, e2]
  have fin : ∃ σ', ((S, fr), fs_u σ 56 0 0, τ) = ((S, fr), σ', τ) ∧ IM σ' V kp nb ∧ (∀ a, a < 56 ∨ 69 ≤ a → σ' a = σ a) ∧ σ' 56 0 = 0 := ⟨_, rfl, h1, th_lo _, u_eq ..⟩
  refine ⟨fun z => fin, fun z => ⟨fun z2 => ?_, fun z2 => fin⟩⟩
  rcases hx with w | w
  · exact absurd w z
  · exact absurd z2 (by rw [Int32.not_le]; exact w)
end PRa
