/-! ===== DayTable ===== -/
def shD (S : List fs_Sh) (t p : Nat) : Prop :=
  S[t]? = some (.inr (0, [some (some p), some (some (t + 1)), some (some (t + 2)), some (some (t + 3)), some (some (t + 4)), some (some (t + 5))])) ∧ S[t + 1]? = some (.inl (.int, 12)) ∧ S[t + 2]? = some (.inl (.int, 12)) ∧ S[t + 3]? = some (.inl (.boolean, 12)) ∧ S[t + 4]? = some (.inl (.int, 12)) ∧ S[t + 5]? = some (.inl (.int, 12))
/-- what the first n scenes make of day e -/
def scF (dy : Nat → Int32) (e : Nat) : Nat → Int32
  | 0 => 0
  | k + 1 => if dy k = nI e then scF dy e k ||| 1 <<< (nI k &&& 31) else scF dy e k
def loF (dy lo : Nat → Int32) (e : Nat) : Nat → Int32
  | 0 => -1
  | k + 1 => if dy k = nI e then lo k else loF dy lo e k
def niF (dy ni : Nat → Int32) (e : Nat) : Nat → Int32
  | 0 => 0
  | k + 1 => if dy k = nI e then ni k else niF dy ni e k
def leF (dy le : Nat → Int32) (e : Nat) : Nat → Int32
  | 0 => 0
  | k + 1 => if dy k = nI e then leF dy le e k + le k else leF dy le e k
def caF (dy ca : Nat → Int32) (e : Nat) : Nat → Int32
  | 0 => 0
  | k + 1 => if dy k = nI e then caF dy ca e k ||| ca k else caF dy ca e k
/-- the table at t shows the first n scenes of production p, at the days dy -/
def shows (σ : Nat → Nat → Int32) (t p : Nat) (dy : Nat → Int32) (n : Nat) : Prop := ∀ e, e < 12 → σ (t + 1) e = scF dy e n ∧ σ (t + 2) e = loF dy (σ (p + 6)) e n ∧ σ (t + 3) e = niF dy (σ (p + 8)) e n ∧ σ (t + 4) e = leF dy (σ (p + 7)) e n ∧ σ (t + 5) e = caF dy (σ (p + 9)) e n
def inT (t : Nat) : Nat → Prop := fun a => t < a ∧ a < t + 6
theorem nar_bool {x : Int32} (h : x = 0 ∨ x = 1) : vp_nar .boolean x = x := by
  rcases h with rfl | rfl <;> decide
section PD
variable {g : fs_G} {d : Nat} {S : List fs_Sh} {fr : Bool} {σ : Nat → Nat → Int32} {τ : Nat → Nat → Int64} {p t : Nat}
theorem l_clearDays (hD : shD S t p) (σ0 : Nat → Nat → Int32) : ∀ n k σ, k + n = 12 → same σ0 σ (inT t) → (∀ e, e < k → σ (t + 1) e = 0 ∧ σ (t + 2) e = -1 ∧ σ (t + 3) e = 0 ∧ σ (t + 4) e = 0 ∧ σ (t + 5) e = 0) → fs_R g m_X0_clearDays d (0, 0) 2 [.ref t, .int (nI k)] [] ((S, fr), σ, τ) (fun r M' => r = none ∧ ∃ σ', M' = ((S, fr), σ', τ) ∧ same σ0 σ' (inT t) ∧ ∀ e, e < 12 → σ' (t + 1) e = 0 ∧ σ' (t + 2) e = -1 ∧ σ' (t + 3) e = 0 ∧ σ' (t + 4) e = 0 ∧ σ' (t + 5) e = 0)
  | 0, k, σ, h, hs, hv => by
    refine S_X0_clearDays_2 ?_
    simp only [T_X0_clearDays_2, fi_const, fi_iload, fi_aload, fi_istore, fi_astore, fi_iinc, fi_bin, fi_div, fi_un, fi_dup, fi_dup2, fi_pop, fi_if, fi_cmp, fi_getf, fi_putf, fi_putr, fi_ald, fi_ast, fi_alen, fi_iret, fi_zret, fi_vret, fi_cut, fi_no, fi_s0, fi_s1, fi_s2, fi_s3, fi_s4, fi_v0, fi_v1, fi_v2, fi_v3, fi_v4, fi_v5, fi_n0, fi_n1, fi_n2, fi_mm, fi_stat, fi_alds, fi_tsw, List.getElem?_cons_zero, List.getElem?_cons_succ, List.set_cons_zero, List.set_cons_succ, List.length_cons, List.length_nil, Option.toList_some, Option.toList_none, List.cons_append, List.nil_append, Value.category]
    refine pk_le 12 k (fun _ => ?_) (fun h2 => by omega)
    exact ⟨trivial, σ, rfl, hs, fun e he => hv e (by omega)⟩
  | n + 1, k, σ, h, hs, hv => by
    obtain ⟨h0, h1, h2, h3, h4, h5⟩ := hD
    have hk : k < 2 ^ 31 := by omega
    refine S_X0_clearDays_2 ?_
    simp only [T_X0_clearDays_2, fi_const, fi_iload, fi_aload, fi_istore, fi_astore, fi_iinc, fi_bin, fi_div, fi_un, fi_dup, fi_dup2, fi_pop, fi_if, fi_cmp, fi_getf, fi_putf, fi_putr, fi_ald, fi_ast, fi_alen, fi_iret, fi_zret, fi_vret, fi_cut, fi_no, fi_s0, fi_s1, fi_s2, fi_s3, fi_s4, fi_v0, fi_v1, fi_v2, fi_v3, fi_v4, fi_v5, fi_n0, fi_n1, fi_n2, fi_mm, fi_stat, fi_alds, fi_tsw, List.getElem?_cons_zero, List.getElem?_cons_succ, List.set_cons_zero, List.set_cons_succ, List.length_cons, List.length_nil, Option.toList_some, Option.toList_none, List.cons_append, List.nil_append, Value.category, h0, h1, h2, h3, h4, h5, nI_clamp hk, nI_1]
    have hi : vp_in (nI k) 12 := vp_in_nI (by omega) (by decide)
    refine pk_le 12 k (fun h2 => by omega) (fun _ => ⟨trivial, trivial, hi, trivial, trivial, hi, trivial, trivial, hi, trivial, trivial, hi, trivial, trivial, hi, ?_⟩)
    refine l_clearDays ⟨h0, h1, h2, h3, h4, h5⟩ σ0 n (k + 1) _ (by omega) (same_uu (same_uu (same_uu (same_uu (same_uu hs ⟨by omega, by omega⟩) ⟨by omega, by omega⟩) ⟨by omega, by omega⟩) ⟨by omega, by omega⟩) ⟨by omega, by omega⟩) ?_
    intro e he
    have q : ∀ x : Int32, (x = 0 ∨ x = -1) → vp_nar .int x = x := fun x hx => by rcases hx with rfl | rfl <;> decide
    have q2 : vp_nar .boolean 0 = 0 := by decide
    simp only [fs_u, q2, q 0 (Or.inl rfl), q (-1) (Or.inr rfl), show ∀ a b : Nat, (t + a = t + b) = (a = b) by intro a b; simp]
    by_cases e1 : e = k
    · subst e1
      simp
    · obtain ⟨a1, a2, a3, a4, a5⟩ := hv e (by omega)
      simp [e1, a1, a2, a3, a4, a5]
theorem c_clearDays (hD : shD S t p) : fs_Ct g m_X0_clearDays [.ref t] ((S, fr), σ, τ) (fun r M' => r = none ∧ ∃ σ', M' = ((S, fr), σ', τ) ∧ same σ σ' (inT t) ∧ ∀ e, e < 12 → σ' (t + 1) e = 0 ∧ σ' (t + 2) e = -1 ∧ σ' (t + 3) e = 0 ∧ σ' (t + 4) e = 0 ∧ σ' (t + 5) e = 0) := by
  refine fs_enterC (by decide) (by simp [fs_ok]) (Nat.le_of_ble_eq_true rfl) (fun d => S_X0_clearDays_0 ?_)
  show T_X0_clearDays_0 g d _ [.ref t, .null] [] _
  simp only [T_X0_clearDays_0, fi_const, fi_iload, fi_aload, fi_istore, fi_astore, fi_iinc, fi_bin, fi_div, fi_un, fi_dup, fi_dup2, fi_pop, fi_if, fi_cmp, fi_getf, fi_putf, fi_putr, fi_ald, fi_ast, fi_alen, fi_iret, fi_zret, fi_vret, fi_cut, fi_no, fi_s0, fi_s1, fi_s2, fi_s3, fi_s4, fi_v0, fi_v1, fi_v2, fi_v3, fi_v4, fi_v5, fi_n0, fi_n1, fi_n2, fi_mm, fi_stat, fi_alds, fi_tsw, List.getElem?_cons_zero, List.getElem?_cons_succ, List.set_cons_zero, List.set_cons_succ, List.length_cons, List.length_nil, Option.toList_some, Option.toList_none, List.cons_append, List.nil_append, Value.category]
  exact l_clearDays hD σ 12 0 σ rfl same.rf (fun e he => by omega)
end PD
