/-! ===== instructions of the law: its script, its helpers ===== -/
def fi_scr (g : fs_G) (K : fs_P) : fs_P := fun ls st M => match st with | .int x :: .ref k :: t => k = 10000 + 50 ∧ vp_in x (fs_XL g) ∧ K ls (.int (fs_Xs g x.toNatClampNeg) :: t) M | _ => False
def fi_sln (g : fs_G) (K : fs_P) : fs_P := fun ls st M => match st with | .ref k :: t => k = 10000 + 50 ∧ K ls (.int (nI (fs_XL g)) :: t) M | _ => False
def fi_h3 (g : fs_G) (μ' : fs_I) (hh : fh_H) (K : fs_P) : fs_P := fun ls st M => match st with | c :: b :: a :: t => t.length ≤ 4 ∧ fh_Ct g μ' hh [a, b, c] M (fun r M' => K ls (r.toList ++ t) M') | _ => False
def fi_h4 (g : fs_G) (μ' : fs_I) (hh : fh_H) (K : fs_P) : fs_P := fun ls st M => match st with | e :: c :: b :: a :: t => t.length ≤ 4 ∧ fh_Ct g μ' hh [a, b, c, e] M (fun r M' => K ls (r.toList ++ t) M') | _ => False
def fh_mS (μ : fs_I) (hh : fh_H) (n : Nat) : Prop := Cond.codeWith (fs_iy μ) (fs_ic μ) (fs_iL μ) (fs_ir μ) hh ∈ fs_tb ∧ Cond.initialized (fs_iy μ).cls ∈ fs_tb ∧ fs_mD (fs_iy μ) n ∧ fs_iL μ ≤ 45 ∧ Cond.static (fs_iy μ) ∈ fs_tb
section FL1
variable {g : fs_G} {μ μ' : fs_I} {d : Nat} {u u' : Nat × Nat} {Q : Option Value → fs_M → Prop} {pc : Nat} {K : fs_P} {hh : fh_H}
theorem fo_scr (hd : decode (fs_ic μ) pc = .ok (.iaload, 1)) (h : fs_E g μ d u Q (pc + 1) K) : fs_E g μ d u Q pc (fi_scr g K) := by
  intro ls st M hk p e R s m args below meth c H locs lsA C0 hS hW hL
  unfold fi_scr at hk
  split at hk
  · rename_i x k t
    obtain ⟨rfl, hin, hk⟩ := hk
    simp only [List.map_cons, fs_cv, fs_ad_s]
    exact va_ti C0.1 C0.2.1 C0.2.2.2.2.2.2.2.2.2.1.2.2.2.2.2.2.2.2 hS hin rfl hd (h ls _ M hk p e R s m args below meth c H locs lsA C0 hS hW hL)
  · exact hk.elim
theorem fo_sln (hd : decode (fs_ic μ) pc = .ok (.arraylength, 1)) (h : fs_E g μ d u Q (pc + 1) K) : fs_E g μ d u Q pc (fi_sln g K) := by
  intro ls st M hk p e R s m args below meth c H locs lsA C0 hS hW hL
  unfold fi_sln at hk
  split at hk
  · rename_i k t
    obtain ⟨rfl, hk⟩ := hk
    have h1 := h ls _ M hk p e R s m args below meth c H locs lsA C0 hS hW hL
    simp only [List.map_cons, fs_cv, fs_ad_s] at h1 ⊢
    exact va_tlen C0.1 C0.2.1 C0.2.2.2.2.2.2.2.2.2.1.2.2.2.2.2.2.2.2 hS rfl hd h1
  · exact hk.elim
theorem fh_goS {d' n index : Nat} {As rest ls : List Value} {M : fs_M} {Q' : Option Value → fs_M → Prop} (hm : fh_mS μ' hh n) (hl : Cond.methodLink (fs_iy μ).cls index (fs_iy μ') ∈ fs_tb) (hdd : d' + 1 ≤ d) (hn : As.length = n) (hu : u.1 + fs_mc μ' ≤ fs_mc μ ∧ u.2 + fs_ms μ' ≤ fs_ms μ) (hd : decode (fs_ic μ) pc = .ok (.invokestatic index, 3))
    (hM : fh_T g μ' hh d' As M Q') (hr : rest.length ≤ 4) (h : ∀ r M', Q' r M' → fs_R g μ d (u.1 + fs_mc μ', u.2 + fs_ms μ') (pc + 3) ls (r.toList ++ rest) M' Q) : fs_R g μ d u pc ls (As.reverse ++ rest) M Q := by
  intro p e R s m args below meth c H locs lsA C0 hS hW hL
  obtain ⟨hc, hi, hD, hiL, hst⟩ := hm
  have hts := C0.2.2.2.2.2.2.1
  have hRe := C0.2.2.2.2.2.2.2.2.1
  refine fs_back (vx_runSW (As := As.map (fs_cv g)) (rest := rest.map (fs_cv g)) ⟨C0.1, C0.2.1, C0.2.2.2.2.1, C0.2.2.2.2.2.1, hts⟩ hM (vx_cwSW n hts (fun w hw => ?_) rfl rfl rfl hD ⟨by rw [hRe]; exact hdd, by rw [hRe]; show 8 + (fs_iL μ' + 11) + 64 * d' ≤ 64 * d; omega⟩) ⟨fs_blind, fs_pre hS C0.2.2.2.2.2.2.2.2.2.1 C0.2.2.2.2.2.2.2.2.2.2.1 hW⟩ rfl (by simpa using hn) (hL.1.1) (by simp) (by simpa using fs_cats hr) hd (by rw [hRe]; exact hu)) hS (fun r M' H1 locs1 hq hW1 hS1 => ?_)
  · simp only [va_wsS, List.mem_append, List.mem_cons, List.not_mem_nil, or_false] at hw
    rcases hw with (rfl | rfl | rfl) | rfl | hw
    · exact fs_good hl
    · exact fs_good hst
    · exact fs_good hi
    · exact fs_good hc
    · exact fs_good hw
  · rw [fs_stk]
    exact h r M' hq p e R s m args below meth c H1 locs1 lsA C0 hS1 hW1 hL
theorem fo_h3 {index : Nat} (hm : fh_mS μ' hh 3) (hl : Cond.methodLink (fs_iy μ).cls index (fs_iy μ') ∈ fs_tb) (hdp : fs_dp μ' + 1 ≤ fs_dp μ) (hu : u.1 + fs_mc μ' ≤ fs_mc μ ∧ u.2 + fs_ms μ' ≤ fs_ms μ) (hu' : (u.1 + fs_mc μ', u.2 + fs_ms μ') = u') (hd : decode (fs_ic μ) pc = .ok (.invokestatic index, 3)) (h : fs_E g μ d u' Q (pc + 3) K) : fs_E g μ d u Q pc (fi_h3 g μ' hh K) := by
  subst hu'
  intro ls st M hk
  unfold fi_h3 at hk
  split at hk
  · rename_i c b a t
    refine fs_dep (fun hdd => ?_)
    exact fh_goS (As := [a, b, c]) (rest := t) hm hl (d' := d - 1) (by omega) rfl hu hd (hk.2 (d - 1) (by omega)) hk.1 (fun r M' hq => h _ _ _ hq)
  · exact hk.elim
theorem fo_h4 {index : Nat} (hm : fh_mS μ' hh 4) (hl : Cond.methodLink (fs_iy μ).cls index (fs_iy μ') ∈ fs_tb) (hdp : fs_dp μ' + 1 ≤ fs_dp μ) (hu : u.1 + fs_mc μ' ≤ fs_mc μ ∧ u.2 + fs_ms μ' ≤ fs_ms μ) (hu' : (u.1 + fs_mc μ', u.2 + fs_ms μ') = u') (hd : decode (fs_ic μ) pc = .ok (.invokestatic index, 3)) (h : fs_E g μ d u' Q (pc + 3) K) : fs_E g μ d u Q pc (fi_h4 g μ' hh K) := by
  subst hu'
  intro ls st M hk
  unfold fi_h4 at hk
  split at hk
  · rename_i e c b a t
    refine fs_dep (fun hdd => ?_)
    exact fh_goS (As := [a, b, c, e]) (rest := t) hm hl (d' := d - 1) (by omega) rfl hu hd (hk.2 (d - 1) (by omega)) hk.1 (fun r M' hq => h _ _ _ hq)
  · exact hk.elim
end FL1
