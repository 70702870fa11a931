/-! ===== cuts, roads that are not taken, recursion, texts ===== -/
def fi_cut (g : fs_G) (μ : fs_I) (d : Nat) (u : Nat × Nat) (pc : Nat) (Q : Option Value → fs_M → Prop) : fs_P := fun ls st M => fs_R g μ d u pc ls st M Q
def fi_no : fs_P := fun _ _ _ => False
/-- a call at the next depth -/
def fi_r3 (g : fs_G) (ci : Nat) (μ' : fs_I) (d : Nat) (K : fs_P) : fs_P := fun ls st M => match st with | c :: b :: a :: .ref k :: t => t.length ≤ 4 ∧ (∃ rs, M.1.1[k]? = some (.inr (ci, rs))) ∧ 1 ≤ d ∧ fs_T g μ' (d - 1) [.ref k, a, b, c] M (fun r M' => K ls (r.toList ++ t) M') | _ => False
def fi_r4 (g : fs_G) (ci : Nat) (μ' : fs_I) (d : Nat) (K : fs_P) : fs_P := fun ls st M => match st with | e :: c :: b :: a :: .ref k :: t => t.length ≤ 4 ∧ (∃ rs, M.1.1[k]? = some (.inr (ci, rs))) ∧ 1 ≤ d ∧ fs_T g μ' (d - 1) [.ref k, a, b, c, e] M (fun r M' => K ls (r.toList ++ t) M') | _ => False
/-- a text's length, a text's sign -/
def fi_slen (K : fs_P) : fs_P := fun ls st M => match st with | .ref k :: t => t.length ≤ 4 ∧ ∃ q ∈ fs_sr, k = 10000 + (100 + q.2.2.2.2) ∧ K ls (.int (nI q.2.2.2.1.length) :: t) M | _ => False
def fi_sch (K : fs_P) : fs_P := fun ls st M => match st with | .int x :: .ref k :: t => t.length ≤ 4 ∧ ∃ q ∈ fs_sr, k = 10000 + (100 + q.2.2.2.2) ∧ ∃ j, j < q.2.2.2.1.length ∧ x = nI j ∧ K ls (.int (q.2.2.2.1.getD j 0) :: t) M | _ => False
section FO9
variable {g : fs_G} {μ μ' : fs_I} {d : Nat} {u u' : Nat × Nat} {Q : Option Value → fs_M → Prop} {pc : Nat} {K : fs_P}
theorem fo_cut : fs_E g μ d u Q pc (fi_cut g μ d u pc Q) := fun _ _ _ h => h
theorem fo_no : fs_E g μ d u Q pc fi_no := fun _ _ _ h => h.elim
theorem fo_r3 {index ci : Nat} (hm : fs_mV μ' ci 3) (hl : Cond.methodLink (fs_iy μ).cls index (fs_iy μ') ∈ fs_tb) (hu0 : (u.1 + fs_mc μ', u.2 + fs_ms μ') = u) (hu : u.1 + fs_mc μ' ≤ fs_mc μ ∧ u.2 + fs_ms μ' ≤ fs_ms μ) (hd : decode (fs_ic μ) pc = .ok (.invokevirtual index, 3)) (h : fs_E g μ d u Q (pc + 3) K) : fs_E g μ d u Q pc (fi_r3 g ci μ' d K) := by
  intro ls st M hk
  unfold fi_r3 at hk
  split at hk
  · rename_i c b a k t
    obtain ⟨h1, ⟨rs, h2⟩, h0, h3⟩ := hk
    exact fs_goV (As := [a, b, c]) (rest := t) hm hl (d' := d - 1) (by omega) rfl hu hd h2 h3 h1 (fun r M' hq => by rw [hu0]; exact h _ _ _ hq)
  · exact hk.elim
theorem fo_r4 {index ci : Nat} (hm : fs_mV μ' ci 4) (hl : Cond.methodLink (fs_iy μ).cls index (fs_iy μ') ∈ fs_tb) (hu0 : (u.1 + fs_mc μ', u.2 + fs_ms μ') = u) (hu : u.1 + fs_mc μ' ≤ fs_mc μ ∧ u.2 + fs_ms μ' ≤ fs_ms μ) (hd : decode (fs_ic μ) pc = .ok (.invokevirtual index, 3)) (h : fs_E g μ d u Q (pc + 3) K) : fs_E g μ d u Q pc (fi_r4 g ci μ' d K) := by
  intro ls st M hk
  unfold fi_r4 at hk
  split at hk
  · rename_i e c b a k t
    obtain ⟨h1, ⟨rs, h2⟩, h0, h3⟩ := hk
    exact fs_goV (As := [a, b, c, e]) (rest := t) hm hl (d' := d - 1) (by omega) rfl hu hd h2 h3 h1 (fun r M' hq => by rw [hu0]; exact h _ _ _ hq)
  · exact hk.elim
end FO9
