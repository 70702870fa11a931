/-! ===== the reference's reader ===== -/
def loM (σ σ' : Nat → Nat → Int32) : Prop := ∀ a c, ¬ ((a = 58 ∧ c < 83) ∨ (a = 60 ∧ c < 18) ∨ (a = 56 ∧ 11 ≤ c ∧ c ≤ 21 ∧ c ≠ 18 ∧ c ≠ 19)) → σ' a c = σ a c
def tfM (σ σ' : Nat → Nat → Int32) : Prop := ∀ a c, ¬ (a = 56 ∧ 11 ≤ c ∧ c ≤ 17) → σ' a c = σ a c
def faM (σ σ' : Nat → Nat → Int32) : Prop := ∀ a c, ¬ (a = 56 ∧ (c = 16 ∨ c = 17)) → σ' a c = σ a c
theorem loM.rf {σ : Nat → Nat → Int32} : loM σ σ := fun _ _ _ => rfl
theorem loM.tr {σ σ1 σ2 : Nat → Nat → Int32} (h : loM σ σ1) (h2 : loM σ1 σ2) : loM σ σ2 := fun a c z => (h2 a c z).trans (h a c z)
theorem tfM.rf {σ : Nat → Nat → Int32} : tfM σ σ := fun _ _ _ => rfl
theorem tfM.tr {σ σ1 σ2 : Nat → Nat → Int32} (h : tfM σ σ1) (h2 : tfM σ1 σ2) : tfM σ σ2 := fun a c z => (h2 a c z).trans (h a c z)
theorem tfM.lo {σ σ' : Nat → Nat → Int32} (h : tfM σ σ') : loM σ σ' := fun a c z => h a c (by omega)
theorem tfM.tk {σ σ' : Nat → Nat → Int32} (h : tkM σ σ') : tfM σ σ' := fun a c z => h a c (by omega)
theorem tfM.fa {σ σ' : Nat → Nat → Int32} (h : faM σ σ') : tfM σ σ' := fun a c z => h a c (by omega)
theorem tfM.ne {σ σ' : Nat → Nat → Int32} (h : tfM σ σ') {a : Nat} (ha : a ≠ 56) : σ' a = σ a := funext fun c => h a c (fun z => ha z.1)
theorem tfM.u {σ : Nat → Nat → Int32} {c : Nat} {x : Int32} (h1 : 11 ≤ c) (h2 : c ≤ 17) : tfM σ (fs_u σ 56 c x) := fun a e z => by
  simp only [fs_u]; rw [if_neg (fun w => z ⟨w.1, by omega, by omega⟩)]
def MS (σ : Nat → Nat → Int32) (b : Nat → Nat) (L : Nat) (Z : Zt) (k : Nat) (o : Option Er) : Prop := TXM σ b L ∧ σ 58 = Z.1 ∧ okZ Z ∧ (o = none → k ≤ L ∧ TM σ b L k ∧ σ 60 = Z.2.1 ∧ σ 56 20 = Z.2.2.2.1 ∧ σ 56 21 = bI Z.2.2.2.2 ∧ σ 56 16 = 0) ∧ (∀ e, o = some e → σ 56 16 = e.1 ∧ σ 56 17 = nI e.2 ∧ erC e)
def ofE (o x : Option Er) : Option Er := match o with | some e => some e | none => x
def wh (c : Bool) (x : Int32) (p : Nat) : Option Er := if c = true then some (x, p) else none
section PR1
variable {g : fs_G} {d : Nat} {S : List fs_Sh} {fr : Bool} {σ : Nat → Nat → Int32} {τ : Nat → Nat → Int64} {b : Nat → Nat} {L : Nat} {Z : Zt} {k : Nat} {o : Option Er}
theorem MS.e0 (h : MS σ b L Z k o) : σ 56 16 = 0 ↔ o = none := by
  obtain ⟨h1, h2, h3, h4, h5⟩ := h
  cases o with
  | none => exact ⟨fun _ => rfl, fun _ => (h4 rfl).2.2.2.2.2⟩
  | some e =>
    obtain ⟨e1, e2, e3⟩ := h5 e rfl
    exact ⟨fun z => absurd (e1.symm.trans z) (erC_neg e3).2, fun z => by cases z⟩
theorem TXM.kt {σ' : Nat → Nat → Int32} (h : TXM σ b L) (hs : tfM σ σ') : TXM σ' b L := by
  obtain ⟨h1, h2, h3⟩ := h
  exact ⟨by rw [hs 56 10 (by omega)]; exact h1, h2, by rw [hs.ne (by decide)]; exact h3⟩
/-- an error stays -/
theorem MS.er {σ' : Nat → Nat → Int32} {e : Er} {k' : Nat} (h : MS σ b L Z k (some e)) (hs : tfM σ σ') (h16 : σ' 56 16 = σ 56 16) (h17 : σ' 56 17 = σ 56 17) : MS σ' b L Z k' (some e) := by
  obtain ⟨h1, h2, h3, h4, h5⟩ := h
  refine ⟨h1.kt hs, by rw [hs.ne (by decide)]; exact h2, h3, (fun z => by cases z), fun e' he => ?_⟩
  rw [h16, h17]; exact h5 e' he
/-- the token is another one -/
theorem MS.ok {σ' : Nat → Nat → Int32} {k' : Nat} (h : MS σ b L Z k none) (hs : tfM σ σ') (h16 : σ' 56 16 = σ 56 16) (hk : k' ≤ L) (hT : TM σ' b L k') : MS σ' b L Z k' none := by
  obtain ⟨h1, h2, h3, h4, h5⟩ := h
  obtain ⟨a1, a2, a3, a4, a5, a6⟩ := h4 rfl
  refine ⟨h1.kt hs, by rw [hs.ne (by decide)]; exact h2, h3, fun _ => ⟨hk, hT, by rw [hs.ne (by decide)]; exact a3, by rw [hs 56 20 (by omega)]; exact a4, by rw [hs 56 21 (by omega)]; exact a5, h16.trans a6⟩, fun e z => by cases z⟩
theorem TM.fa {σ' : Nat → Nat → Int32} (h : TM σ b L k) (hs : ∀ c, 11 ≤ c → c ≤ 14 → σ' 56 c = σ 56 c) : TM σ' b L k := by
  unfold TM at h ⊢
  rw [hs 11 (by decide) (by decide), hs 12 (by decide) (by decide), hs 13 (by decide) (by decide), hs 14 (by decide) (by decide)]
  exact h
theorem c_failsIf (hM : shM S 56) {c : Bool} {x y : Int32} (hx : ∀ p, erC (x, p)) (hy : y = bI c) (h : MS σ b L Z k o) : fs_Ct g m_X9_failsIf [.ref 56, .int y, .int x] ((S, fr), σ, τ) (fun r M' => r = none ∧ ∃ σ', M' = ((S, fr), σ', τ) ∧ faM σ σ' ∧ MS σ' b L Z k (ofE o (wh c x (tS b L k)))) := by
  subst hy
  have he := h.e0
  refine fs_enterC (by decide) (by simp [fs_ok]) (Nat.le_of_ble_eq_true rfl) (fun d => S_X9_failsIf_0 ?_)
  show T_X9_failsIf_0 g d _ [.ref 56, .int (bI c), .int x] [] _
  simp only [T_X9_failsIf_0, fi_const, fi_iload, fi_aload, fi_istore, fi_astore, fi_iinc, fi_bin, fi_div, fi_un, fi_dup, fi_dup2, fi_pop, fi_if, fi_cmp, fi_getf, fi_putf, fi_putr, fi_ald, fi_ast, fi_alen, fi_iret, fi_zret, fi_vret, fi_cut, fi_no, fi_s0, fi_s1, fi_s2, fi_s3, fi_s4, fi_v0, fi_v1, fi_v2, fi_v3, fi_v4, fi_v5, fi_n0, fi_n1, fi_n2, fi_mm, fi_stat, fi_alds, fi_tsw, List.getElem?_cons_zero, List.getElem?_cons_succ, List.set_cons_zero, List.set_cons_succ, List.length_cons, List.length_nil, Option.toList_some, Option.toList_none, List.cons_append, List.nil_append, Value.category, true_and, k_0, k_1, k_2, k_3, k_4, false_implies, true_implies, reduceCtorEq]
  simp only [fi_const, fi_iload, fi_aload, fi_istore, fi_astore, fi_iinc, fi_bin, fi_div, fi_un, fi_dup, fi_dup2, fi_pop, fi_if, fi_cmp, fi_getf, fi_putf, fi_putr, fi_ald, fi_ast, fi_alen, fi_iret, fi_zret, fi_vret, fi_cut, fi_no, fi_s0, fi_s1, fi_s2, fi_s3, fi_s4, fi_v0, fi_v1, fi_v2, fi_v3, fi_v4, fi_v5, fi_n0, fi_n1, fi_n2, fi_mm, fi_stat, fi_alds, fi_tsw, List.getElem?_cons_zero, List.getElem?_cons_succ, List.set_cons_zero, List.set_cons_succ, List.length_cons, List.length_nil, Option.toList_some, Option.toList_none, List.cons_append, List.nil_append, Value.category, true_and, k_0, k_1, k_2, k_3, k_4, false_implies, true_implies, reduceCtorEq, hM.1]
  refine ⟨fun z => ?_, fun z => ?_⟩
  · have ho := he.mp z
    subst ho
    obtain ⟨h1, h2, h3, h4, h5⟩ := id h
    obtain ⟨a1, a2, a3, a4, a5, a6⟩ := h4 rfl
    have e12 : fs_u σ 56 16 x 56 12 = nI (tS b L k) := by simp only [fs_u]; rw [if_neg (by decide)]; exact a2.2.1
    simp only [bI_eq0, e12]
    refine ⟨fun q => ⟨σ, rfl, fun _ _ _ => rfl, ?_⟩, fun q => ?_⟩
    · rw [q]; exact h
    · have q' : c = true := by cases w : c; exact absurd w q; rfl
      subst q'
      have hf : faM σ (fs_u (fs_u σ 56 16 x) 56 17 (nI (tS b L k))) := fun a c z => by
        simp only [fs_u]; rw [if_neg (by omega), if_neg (by omega)]
      refine ⟨_, rfl, hf, h1.kt (tfM.fa hf), ?_, h3, (fun z => by cases z), fun e z => ?_⟩
      · rw [(tfM.fa hf).ne (by decide)]; exact h2
      · have : e = (x, tS b L k) := by simp only [ofE, wh, if_pos] at z; exact (Option.some.inj z).symm
        subst this
        refine ⟨?_, u_eq .., hx _⟩
        simp only [fs_u]; rw [if_neg (by decide), if_pos ⟨trivial, trivial⟩]
  · cases o with
    | none => exact absurd (he.mpr rfl) z
    | some e => exact ⟨σ, rfl, fun _ _ _ => rfl, h⟩
theorem c_goOn (hM : shM S 56) (h : MS σ b L Z k o) : fs_Ct g m_X9_goOn [.ref 56] ((S, fr), σ, τ) (fun r M' => r = none ∧ ∃ σ', M' = ((S, fr), σ', τ) ∧ tkM σ σ' ∧ MS σ' b L Z (tE b L k) o) := by
  have he := h.e0
  refine fs_enterC (by decide) (by simp [fs_ok]) (Nat.le_of_ble_eq_true rfl) (fun d => S_X9_goOn_0 ?_)
  show T_X9_goOn_0 g d _ [.ref 56] [] _
  simp only [T_X9_goOn_0, fi_const, fi_iload, fi_aload, fi_istore, fi_astore, fi_iinc, fi_bin, fi_div, fi_un, fi_dup, fi_dup2, fi_pop, fi_if, fi_cmp, fi_getf, fi_putf, fi_putr, fi_ald, fi_ast, fi_alen, fi_iret, fi_zret, fi_vret, fi_cut, fi_no, fi_s0, fi_s1, fi_s2, fi_s3, fi_s4, fi_v0, fi_v1, fi_v2, fi_v3, fi_v4, fi_v5, fi_n0, fi_n1, fi_n2, fi_mm, fi_stat, fi_alds, fi_tsw, List.getElem?_cons_zero, List.getElem?_cons_succ, List.set_cons_zero, List.set_cons_succ, List.length_cons, List.length_nil, Option.toList_some, Option.toList_none, List.cons_append, List.nil_append, Value.category, true_and, k_0, k_1, k_2, k_3, k_4, false_implies, true_implies, reduceCtorEq]
  simp only [fi_const, fi_iload, fi_aload, fi_istore, fi_astore, fi_iinc, fi_bin, fi_div, fi_un, fi_dup, fi_dup2, fi_pop, fi_if, fi_cmp, fi_getf, fi_putf, fi_putr, fi_ald, fi_ast, fi_alen, fi_iret, fi_zret, fi_vret, fi_cut, fi_no, fi_s0, fi_s1, fi_s2, fi_s3, fi_s4, fi_v0, fi_v1, fi_v2, fi_v3, fi_v4, fi_v5, fi_n0, fi_n1, fi_n2, fi_mm, fi_stat, fi_alds, fi_tsw, List.getElem?_cons_zero, List.getElem?_cons_succ, List.set_cons_zero, List.set_cons_succ, List.length_cons, List.length_nil, Option.toList_some, Option.toList_none, List.cons_append, List.nil_append, Value.category, true_and, k_0, k_1, k_2, k_3, k_4, false_implies, true_implies, reduceCtorEq, hM.1]
  refine ⟨fun z => ?_, fun z => ?_⟩
  · have ho := he.mp z
    subst ho
    obtain ⟨h1, h2, h3, h4, h5⟩ := id h
    obtain ⟨a1, a2, a3, a4, a5, a6⟩ := h4 rfl
    have hk := (tE_k (b := b) a1).2
    refine ⟨by decide, ⟨_, rfl⟩, (c_next hM hk h1 a2.2.2.1).mono ?_⟩
    rintro r M' ⟨rfl, σ', rfl, f1, f2⟩
    simp only [fi_const, fi_iload, fi_aload, fi_istore, fi_astore, fi_iinc, fi_bin, fi_div, fi_un, fi_dup, fi_dup2, fi_pop, fi_if, fi_cmp, fi_getf, fi_putf, fi_putr, fi_ald, fi_ast, fi_alen, fi_iret, fi_zret, fi_vret, fi_cut, fi_no, fi_s0, fi_s1, fi_s2, fi_s3, fi_s4, fi_v0, fi_v1, fi_v2, fi_v3, fi_v4, fi_v5, fi_n0, fi_n1, fi_n2, fi_mm, fi_stat, fi_alds, fi_tsw, List.getElem?_cons_zero, List.getElem?_cons_succ, List.set_cons_zero, List.set_cons_succ, List.length_cons, List.length_nil, Option.toList_some, Option.toList_none, List.cons_append, List.nil_append, Value.category, true_and, k_0, k_1, k_2, k_3, k_4, false_implies, true_implies, reduceCtorEq]
    exact ⟨σ', rfl, f1, h.ok (tfM.tk f1) (f1 56 16 (by omega)) hk f2⟩
  · cases o with
    | none => exact absurd (he.mpr rfl) z
    | some e => exact ⟨σ, rfl, tkM.rf, h.er tfM.rf rfl rfl⟩
theorem wh_m {c : Bool} {x : Int32} {p : Nat} : wh c x p = none ↔ c = false := by cases c <;> simp [wh]
theorem ofE_n {o x : Option Er} : ofE o x = none ↔ o = none ∧ x = none := by cases o <;> simp [ofE]
theorem l_fig41 (hM : shM S 56) {lo hi : Nat} {o0 : Option Er} (q : Bool) (h : MS σ b L Z k o) (ho : ofE o (wh q (-12) (tS b L k)) = ofE o0 (eInt b L lo hi k)) (σ0 : Nat → Nat → Int32) (h0 : tfM σ0 σ) : fs_R g m_X9_figure d (0, 0) 41 [.ref 56, .int (nI lo), .int (nI hi)] [.int (bI q), .ref 56] ((S, fr), σ, τ) (fun r M' => (∃ y, r = some (.int y) ∧ (ofE o0 (eInt b L lo hi k) = none → y = nI (tV b L k))) ∧ ∃ σ', M' = ((S, fr), σ', τ) ∧ tfM σ0 σ' ∧ MS σ' b L Z k (ofE o0 (eInt b L lo hi k))) := by
  refine S_X9_figure_41 ?_
  simp only [T_X9_figure_41, fi_const, fi_iload, fi_aload, fi_istore, fi_astore, fi_iinc, fi_bin, fi_div, fi_un, fi_dup, fi_dup2, fi_pop, fi_if, fi_cmp, fi_getf, fi_putf, fi_putr, fi_ald, fi_ast, fi_alen, fi_iret, fi_zret, fi_vret, fi_cut, fi_no, fi_s0, fi_s1, fi_s2, fi_s3, fi_s4, fi_v0, fi_v1, fi_v2, fi_v3, fi_v4, fi_v5, fi_n0, fi_n1, fi_n2, fi_mm, fi_stat, fi_alds, fi_tsw, List.getElem?_cons_zero, List.getElem?_cons_succ, List.set_cons_zero, List.set_cons_succ, List.length_cons, List.length_nil, Option.toList_some, Option.toList_none, List.cons_append, List.nil_append, Value.category, true_and, k_0, k_1, k_2, k_3, k_4, false_implies, true_implies, reduceCtorEq, hM.1]
  refine ⟨by decide, ⟨_, rfl⟩, (c_failsIf hM (c := q) (fun p => by unfold erC; simp) rfl h).mono ?_⟩
  rintro r M' ⟨rfl, σ1, rfl, f1, f2⟩
  rw [ho] at f2
  have he := f2.e0
  simp only [fi_const, fi_iload, fi_aload, fi_istore, fi_astore, fi_iinc, fi_bin, fi_div, fi_un, fi_dup, fi_dup2, fi_pop, fi_if, fi_cmp, fi_getf, fi_putf, fi_putr, fi_ald, fi_ast, fi_alen, fi_iret, fi_zret, fi_vret, fi_cut, fi_no, fi_s0, fi_s1, fi_s2, fi_s3, fi_s4, fi_v0, fi_v1, fi_v2, fi_v3, fi_v4, fi_v5, fi_n0, fi_n1, fi_n2, fi_mm, fi_stat, fi_alds, fi_tsw, List.getElem?_cons_zero, List.getElem?_cons_succ, List.set_cons_zero, List.set_cons_succ, List.length_cons, List.length_nil, Option.toList_some, Option.toList_none, List.cons_append, List.nil_append, Value.category, true_and, k_0, k_1, k_2, k_3, k_4, false_implies, true_implies, reduceCtorEq, hM.1]
  refine ⟨fun z => ?_, fun z => ?_⟩
  · refine ⟨⟨_, rfl, fun w => ?_⟩, σ1, rfl, h0.tr (tfM.fa f1), f2⟩
    have hT := (f2.2.2.2.1 w).2.1
    refine hT.2.2.2.1 ?_
    have := (ofE_n.mp w).2
    unfold eInt at this
    by_cases v : tK b L k = 2
    · exact v
    · rw [if_neg v] at this; cases this
  · exact ⟨⟨_, rfl, fun w => absurd (he.mpr w) z⟩, σ1, rfl, h0.tr (tfM.fa f1), f2⟩
theorem kM_2 {x : Nat} (h : x ≤ 4) : kM x = 1 ↔ x = 2 := by
  have : x = 0 ∨ x = 1 ∨ x = 2 ∨ x = 3 ∨ x = 4 := by omega
  rcases this with rfl | rfl | rfl | rfl | rfl <;> decide
theorem kM_1 {x : Nat} (h : x ≤ 4) : kM x = 0 ↔ x = 1 := by
  have : x = 0 ∨ x = 1 ∨ x = 2 ∨ x = 3 ∨ x = 4 := by omega
  rcases this with rfl | rfl | rfl | rfl | rfl <;> decide
theorem kM_3 {x : Nat} (h : x ≤ 4) : kM x = 2 ↔ x = 3 := by
  have : x = 0 ∨ x = 1 ∨ x = 2 ∨ x = 3 ∨ x = 4 := by omega
  rcases this with rfl | rfl | rfl | rfl | rfl <;> decide
theorem kM_0 {x : Nat} (h : x ≤ 4) : kM x = 3 ↔ x = 0 := by
  have : x = 0 ∨ x = 1 ∨ x = 2 ∨ x = 3 ∨ x = 4 := by omega
  rcases this with rfl | rfl | rfl | rfl | rfl <;> decide
theorem l_fig14 (hM : shM S 56) {lo hi : Nat} (hlo : lo < 2 ^ 31) (hhi : hi < 2 ^ 31) (q : Bool) (h : MS σ b L Z k o) (hq : o = none → q = !decide (tK b L k = 2)) : fs_R g m_X9_figure d (0, 0) 14 [.ref 56, .int (nI lo), .int (nI hi)] [.int (bI q), .ref 56] ((S, fr), σ, τ) (fun r M' => (∃ y, r = some (.int y) ∧ (ofE o (eInt b L lo hi k) = none → y = nI (tV b L k))) ∧ ∃ σ', M' = ((S, fr), σ', τ) ∧ tfM σ σ' ∧ MS σ' b L Z k (ofE o (eInt b L lo hi k))) := by
  have hv := tV_le b L k
  refine S_X9_figure_14 ?_
  simp only [T_X9_figure_14, fi_const, fi_iload, fi_aload, fi_istore, fi_astore, fi_iinc, fi_bin, fi_div, fi_un, fi_dup, fi_dup2, fi_pop, fi_if, fi_cmp, fi_getf, fi_putf, fi_putr, fi_ald, fi_ast, fi_alen, fi_iret, fi_zret, fi_vret, fi_cut, fi_no, fi_s0, fi_s1, fi_s2, fi_s3, fi_s4, fi_v0, fi_v1, fi_v2, fi_v3, fi_v4, fi_v5, fi_n0, fi_n1, fi_n2, fi_mm, fi_stat, fi_alds, fi_tsw, List.getElem?_cons_zero, List.getElem?_cons_succ, List.set_cons_zero, List.set_cons_succ, List.length_cons, List.length_nil, Option.toList_some, Option.toList_none, List.cons_append, List.nil_append, Value.category, true_and, k_0, k_1, k_2, k_3, k_4, false_implies, true_implies, reduceCtorEq, hM.1]
  refine ⟨by decide, ⟨_, rfl⟩, (c_failsIf hM (c := q) (fun p => by unfold erC; simp) rfl h).mono ?_⟩
  rintro r M' ⟨rfl, σ1, rfl, f1, f2⟩
  simp only [fi_const, fi_iload, fi_aload, fi_istore, fi_astore, fi_iinc, fi_bin, fi_div, fi_un, fi_dup, fi_dup2, fi_pop, fi_if, fi_cmp, fi_getf, fi_putf, fi_putr, fi_ald, fi_ast, fi_alen, fi_iret, fi_zret, fi_vret, fi_cut, fi_no, fi_s0, fi_s1, fi_s2, fi_s3, fi_s4, fi_v0, fi_v1, fi_v2, fi_v3, fi_v4, fi_v5, fi_n0, fi_n1, fi_n2, fi_mm, fi_stat, fi_alds, fi_tsw, List.getElem?_cons_zero, List.getElem?_cons_succ, List.set_cons_zero, List.set_cons_succ, List.length_cons, List.length_nil, Option.toList_some, Option.toList_none, List.cons_append, List.nil_append, Value.category, true_and, k_0, k_1, k_2, k_3, k_4, false_implies, true_implies, reduceCtorEq, hM.1]
  -- the second fault
  have key : ∀ q2 : Bool, (ofE o (wh q (-11) (tS b L k)) = none → q2 = decide (tV b L k < lo ∨ hi < tV b L k)) → ofE (ofE o (wh q (-11) (tS b L k))) (wh q2 (-12) (tS b L k)) = ofE o (eInt b L lo hi k) := by
    intro q2 hq2
    cases o with
    | some e => rfl
    | none =>
      have := hq rfl
      unfold eInt
      by_cases v : tK b L k = 2
      · rw [decide_eq_true v] at this
        subst this
        have := hq2 rfl
        rw [if_pos v]
        show wh q2 (-12) (tS b L k) = _
        by_cases u : tV b L k < lo ∨ hi < tV b L k
        · rw [if_pos u, this, decide_eq_true u]; rfl
        · rw [if_neg u, this, decide_eq_false u]; rfl
      · rw [decide_eq_false v] at this
        subst this
        rw [if_neg v]; rfl
  have hval : ofE o (wh q (-11) (tS b L k)) = none → σ1 56 14 = nI (tV b L k) := fun w => by
    refine (f2.2.2.2.1 w).2.1.2.2.2.1 ?_
    obtain ⟨w1, w2⟩ := ofE_n.mp w
    have := hq w1
    rw [wh_m.mp w2] at this
    by_cases v : tK b L k = 2
    · exact v
    · rw [decide_eq_false v] at this; cases this
  refine ⟨fun z => ?_, fun z => ⟨fun z2 => ?_, fun z2 => ?_⟩⟩
  · exact l_fig41 hM true f2 (key true (fun w => (decide_eq_true (Or.inl (by rw [hval w] at z; exact (nI_ltI (by omega) (by omega)).mp z))).symm)) σ (tfM.fa f1)
  · refine l_fig41 hM false f2 (key false (fun w => (decide_eq_false (fun u => ?_)).symm)) σ (tfM.fa f1)
    rw [hval w] at z z2
    rcases u with u | u
    · exact z ((nI_ltI (by omega) (by omega)).mpr u)
    · have := (nI_leI (by omega) (by omega)).mp z2; omega
  · refine l_fig41 hM true f2 (key true (fun w => (decide_eq_true (Or.inr ?_)).symm)) σ (tfM.fa f1)
    rw [hval w] at z2
    have : ¬ tV b L k ≤ hi := fun u => z2 ((nI_leI (by omega) (by omega)).mpr u)
    omega
theorem c_figure (hM : shM S 56) {lo hi : Nat} (hlo : lo < 2 ^ 31) (hhi : hi < 2 ^ 31) (h : MS σ b L Z k o) : fs_Ct g m_X9_figure [.ref 56, .int (nI lo), .int (nI hi)] ((S, fr), σ, τ) (fun r M' => (∃ y, r = some (.int y) ∧ (ofE o (eInt b L lo hi k) = none → y = nI (tV b L k))) ∧ ∃ σ', M' = ((S, fr), σ', τ) ∧ tfM σ σ' ∧ MS σ' b L Z k (ofE o (eInt b L lo hi k))) := by
  have hk4 := tK_le b L k
  refine fs_enterC (by decide) (by simp [fs_ok]) (Nat.le_of_ble_eq_true rfl) (fun d => S_X9_figure_0 ?_)
  show T_X9_figure_0 g d _ [.ref 56, .int (nI lo), .int (nI hi)] [] _
  simp only [T_X9_figure_0, fi_const, fi_iload, fi_aload, fi_istore, fi_astore, fi_iinc, fi_bin, fi_div, fi_un, fi_dup, fi_dup2, fi_pop, fi_if, fi_cmp, fi_getf, fi_putf, fi_putr, fi_ald, fi_ast, fi_alen, fi_iret, fi_zret, fi_vret, fi_cut, fi_no, fi_s0, fi_s1, fi_s2, fi_s3, fi_s4, fi_v0, fi_v1, fi_v2, fi_v3, fi_v4, fi_v5, fi_n0, fi_n1, fi_n2, fi_mm, fi_stat, fi_alds, fi_tsw, List.getElem?_cons_zero, List.getElem?_cons_succ, List.set_cons_zero, List.set_cons_succ, List.length_cons, List.length_nil, Option.toList_some, Option.toList_none, List.cons_append, List.nil_append, Value.category, true_and, k_0, k_1, k_2, k_3, k_4, false_implies, true_implies, reduceCtorEq]
  simp only [fi_const, fi_iload, fi_aload, fi_istore, fi_astore, fi_iinc, fi_bin, fi_div, fi_un, fi_dup, fi_dup2, fi_pop, fi_if, fi_cmp, fi_getf, fi_putf, fi_putr, fi_ald, fi_ast, fi_alen, fi_iret, fi_zret, fi_vret, fi_cut, fi_no, fi_s0, fi_s1, fi_s2, fi_s3, fi_s4, fi_v0, fi_v1, fi_v2, fi_v3, fi_v4, fi_v5, fi_n0, fi_n1, fi_n2, fi_mm, fi_stat, fi_alds, fi_tsw, List.getElem?_cons_zero, List.getElem?_cons_succ, List.set_cons_zero, List.set_cons_succ, List.length_cons, List.length_nil, Option.toList_some, Option.toList_none, List.cons_append, List.nil_append, Value.category, true_and, k_0, k_1, k_2, k_3, k_4, false_implies, true_implies, reduceCtorEq, hM.1]
  refine ⟨fun z => ?_, fun z => ?_⟩
  · exact l_fig14 hM hlo hhi false h (fun w => by rw [(h.2.2.2.1 w).2.1.1, kM_2 hk4] at z; rw [decide_eq_true z]; rfl)
  · exact l_fig14 hM hlo hhi true h (fun w => by rw [(h.2.2.2.1 w).2.1.1, kM_2 hk4] at z; rw [decide_eq_false z]; rfl)
theorem c_integer (hM : shM S 56) {lo hi : Nat} (hlo : lo < 2 ^ 31) (hhi : hi < 2 ^ 31) (h : MS σ b L Z k o) : fs_Ct g m_X9_integer [.ref 56, .int (nI lo), .int (nI hi)] ((S, fr), σ, τ) (fun r M' => (∃ y, r = some (.int y) ∧ (ofE o (eInt b L lo hi k) = none → y = nI (tV b L k))) ∧ ∃ σ', M' = ((S, fr), σ', τ) ∧ tfM σ σ' ∧ MS σ' b L Z (tE b L k) (ofE o (eInt b L lo hi k))) := by
  refine fs_enterC (by decide) (by simp [fs_ok]) (Nat.le_of_ble_eq_true rfl) (fun d => S_X9_integer_0 ?_)
  show T_X9_integer_0 g d _ [.ref 56, .int (nI lo), .int (nI hi), .null] [] _
  simp only [T_X9_integer_0, fi_const, fi_iload, fi_aload, fi_istore, fi_astore, fi_iinc, fi_bin, fi_div, fi_un, fi_dup, fi_dup2, fi_pop, fi_if, fi_cmp, fi_getf, fi_putf, fi_putr, fi_ald, fi_ast, fi_alen, fi_iret, fi_zret, fi_vret, fi_cut, fi_no, fi_s0, fi_s1, fi_s2, fi_s3, fi_s4, fi_v0, fi_v1, fi_v2, fi_v3, fi_v4, fi_v5, fi_n0, fi_n1, fi_n2, fi_mm, fi_stat, fi_alds, fi_tsw, List.getElem?_cons_zero, List.getElem?_cons_succ, List.set_cons_zero, List.set_cons_succ, List.length_cons, List.length_nil, Option.toList_some, Option.toList_none, List.cons_append, List.nil_append, Value.category, true_and, k_0, k_1, k_2, k_3, k_4, false_implies, true_implies, reduceCtorEq]
  refine ⟨by decide, ⟨_, hM.1⟩, (c_figure hM hlo hhi h).mono ?_⟩
  rintro r M' ⟨⟨y, rfl, hy⟩, σ1, rfl, f1, f2⟩
  simp only [fi_const, fi_iload, fi_aload, fi_istore, fi_astore, fi_iinc, fi_bin, fi_div, fi_un, fi_dup, fi_dup2, fi_pop, fi_if, fi_cmp, fi_getf, fi_putf, fi_putr, fi_ald, fi_ast, fi_alen, fi_iret, fi_zret, fi_vret, fi_cut, fi_no, fi_s0, fi_s1, fi_s2, fi_s3, fi_s4, fi_v0, fi_v1, fi_v2, fi_v3, fi_v4, fi_v5, fi_n0, fi_n1, fi_n2, fi_mm, fi_stat, fi_alds, fi_tsw, List.getElem?_cons_zero, List.getElem?_cons_succ, List.set_cons_zero, List.set_cons_succ, List.length_cons, List.length_nil, Option.toList_some, Option.toList_none, List.cons_append, List.nil_append, Value.category, true_and, k_0, k_1, k_2, k_3, k_4, false_implies, true_implies, reduceCtorEq]
  refine ⟨by decide, ⟨_, hM.1⟩, (c_goOn hM f2).mono ?_⟩
  rintro r M' ⟨rfl, σ2, rfl, f3, f4⟩
  simp only [fi_const, fi_iload, fi_aload, fi_istore, fi_astore, fi_iinc, fi_bin, fi_div, fi_un, fi_dup, fi_dup2, fi_pop, fi_if, fi_cmp, fi_getf, fi_putf, fi_putr, fi_ald, fi_ast, fi_alen, fi_iret, fi_zret, fi_vret, fi_cut, fi_no, fi_s0, fi_s1, fi_s2, fi_s3, fi_s4, fi_v0, fi_v1, fi_v2, fi_v3, fi_v4, fi_v5, fi_n0, fi_n1, fi_n2, fi_mm, fi_stat, fi_alds, fi_tsw, List.getElem?_cons_zero, List.getElem?_cons_succ, List.set_cons_zero, List.set_cons_succ, List.length_cons, List.length_nil, Option.toList_some, Option.toList_none, List.cons_append, List.nil_append, Value.category, true_and, k_0, k_1, k_2, k_3, k_4, false_implies, true_implies, reduceCtorEq]
  exact ⟨⟨y, rfl, hy⟩, σ2, rfl, f1.tr (tfM.tk f3), f4⟩
end PR1
