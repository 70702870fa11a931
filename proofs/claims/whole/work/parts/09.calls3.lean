section FO6
variable {g : fs_G} {μ μ' : fs_I} {d : Nat} {u u' : Nat × Nat} {Q : Option Value → fs_M → Prop} {pc : Nat} {K K1 K2 : fs_P}
theorem fo_s0 {index : Nat} (hm : fs_mS μ' 0) (hl : Cond.methodLink (fs_iy μ).cls index (fs_iy μ') ∈ fs_tb) (hdp : fs_dp μ' + 1 ≤ fs_dp μ) (hu : u.1 + fs_mc μ' ≤ fs_mc μ ∧ u.2 + fs_ms μ' ≤ fs_ms μ) (hu' : (u.1 + fs_mc μ', u.2 + fs_ms μ') = u') (hd : decode (fs_ic μ) pc = .ok (.invokestatic index, 3)) (h : fs_E g μ d u' Q (pc + 3) K) : fs_E g μ d u Q pc (fi_s0 g μ' K) := by
  subst hu'
  intro ls st M hk
  unfold fi_s0 at hk
  refine fs_dep (fun hdd => ?_)
  exact fs_goS (As := []) (rest := st) hm hl (d' := d - 1) (by omega) rfl hu hd (hk.2 (d - 1) (by omega)) hk.1 (fun r M' hq => h _ _ _ hq)
theorem fo_s1 {index : Nat} (hm : fs_mS μ' 1) (hl : Cond.methodLink (fs_iy μ).cls index (fs_iy μ') ∈ fs_tb) (hdp : fs_dp μ' + 1 ≤ fs_dp μ) (hu : u.1 + fs_mc μ' ≤ fs_mc μ ∧ u.2 + fs_ms μ' ≤ fs_ms μ) (hu' : (u.1 + fs_mc μ', u.2 + fs_ms μ') = u') (hd : decode (fs_ic μ) pc = .ok (.invokestatic index, 3)) (h : fs_E g μ d u' Q (pc + 3) K) : fs_E g μ d u Q pc (fi_s1 g μ' K) := by
  subst hu'
  intro ls st M hk
  unfold fi_s1 at hk
  split at hk
  · rename_i a t
    refine fs_dep (fun hdd => ?_)
    exact fs_goS (As := [a]) (rest := t) hm hl (d' := d - 1) (by omega) rfl hu hd (hk.2 (d - 1) (by omega)) hk.1 (fun r M' hq => h _ _ _ hq)
  · exact hk.elim
theorem fo_s2 {index : Nat} (hm : fs_mS μ' 2) (hl : Cond.methodLink (fs_iy μ).cls index (fs_iy μ') ∈ fs_tb) (hdp : fs_dp μ' + 1 ≤ fs_dp μ) (hu : u.1 + fs_mc μ' ≤ fs_mc μ ∧ u.2 + fs_ms μ' ≤ fs_ms μ) (hu' : (u.1 + fs_mc μ', u.2 + fs_ms μ') = u') (hd : decode (fs_ic μ) pc = .ok (.invokestatic index, 3)) (h : fs_E g μ d u' Q (pc + 3) K) : fs_E g μ d u Q pc (fi_s2 g μ' K) := by
  subst hu'
  intro ls st M hk
  unfold fi_s2 at hk
  split at hk
  · rename_i b a t
    refine fs_dep (fun hdd => ?_)
    exact fs_goS (As := [a, b]) (rest := t) hm hl (d' := d - 1) (by omega) rfl hu hd (hk.2 (d - 1) (by omega)) hk.1 (fun r M' hq => h _ _ _ hq)
  · exact hk.elim
theorem fo_s3 {index : Nat} (hm : fs_mS μ' 3) (hl : Cond.methodLink (fs_iy μ).cls index (fs_iy μ') ∈ fs_tb) (hdp : fs_dp μ' + 1 ≤ fs_dp μ) (hu : u.1 + fs_mc μ' ≤ fs_mc μ ∧ u.2 + fs_ms μ' ≤ fs_ms μ) (hu' : (u.1 + fs_mc μ', u.2 + fs_ms μ') = u') (hd : decode (fs_ic μ) pc = .ok (.invokestatic index, 3)) (h : fs_E g μ d u' Q (pc + 3) K) : fs_E g μ d u Q pc (fi_s3 g μ' K) := by
  subst hu'
  intro ls st M hk
  unfold fi_s3 at hk
  split at hk
  · rename_i c b a t
    refine fs_dep (fun hdd => ?_)
    exact fs_goS (As := [a, b, c]) (rest := t) hm hl (d' := d - 1) (by omega) rfl hu hd (hk.2 (d - 1) (by omega)) hk.1 (fun r M' hq => h _ _ _ hq)
  · exact hk.elim
theorem fo_s4 {index : Nat} (hm : fs_mS μ' 4) (hl : Cond.methodLink (fs_iy μ).cls index (fs_iy μ') ∈ fs_tb) (hdp : fs_dp μ' + 1 ≤ fs_dp μ) (hu : u.1 + fs_mc μ' ≤ fs_mc μ ∧ u.2 + fs_ms μ' ≤ fs_ms μ) (hu' : (u.1 + fs_mc μ', u.2 + fs_ms μ') = u') (hd : decode (fs_ic μ) pc = .ok (.invokestatic index, 3)) (h : fs_E g μ d u' Q (pc + 3) K) : fs_E g μ d u Q pc (fi_s4 g μ' K) := by
  subst hu'
  intro ls st M hk
  unfold fi_s4 at hk
  split at hk
  · rename_i e c b a t
    refine fs_dep (fun hdd => ?_)
    exact fs_goS (As := [a, b, c, e]) (rest := t) hm hl (d' := d - 1) (by omega) rfl hu hd (hk.2 (d - 1) (by omega)) hk.1 (fun r M' hq => h _ _ _ hq)
  · exact hk.elim
theorem fo_sn0 {index : Nat} {host : String} (hm : fs_mS μ' 0) (hl : ((fs_iy μ).cls, index, fs_iy μ', host) ∈ fs_mn) (hdp : fs_dp μ' + 1 ≤ fs_dp μ) (hu : u.1 + fs_mc μ' ≤ fs_mc μ ∧ u.2 + fs_ms μ' ≤ fs_ms μ) (hu' : (u.1 + fs_mc μ', u.2 + fs_ms μ') = u') (hd : decode (fs_ic μ) pc = .ok (.invokestatic index, 3)) (h : fs_E g μ d u' Q (pc + 3) K) : fs_E g μ d u Q pc (fi_s0 g μ' K) := by
  subst hu'
  intro ls st M hk
  unfold fi_s0 at hk
  refine fs_dep (fun hdd => ?_)
  exact fs_goSN (As := []) (rest := st) hm hl (d' := d - 1) (by omega) rfl hu hd (hk.2 (d - 1) (by omega)) hk.1 (fun r M' hq => h _ _ _ hq)
theorem fo_sn1 {index : Nat} {host : String} (hm : fs_mS μ' 1) (hl : ((fs_iy μ).cls, index, fs_iy μ', host) ∈ fs_mn) (hdp : fs_dp μ' + 1 ≤ fs_dp μ) (hu : u.1 + fs_mc μ' ≤ fs_mc μ ∧ u.2 + fs_ms μ' ≤ fs_ms μ) (hu' : (u.1 + fs_mc μ', u.2 + fs_ms μ') = u') (hd : decode (fs_ic μ) pc = .ok (.invokestatic index, 3)) (h : fs_E g μ d u' Q (pc + 3) K) : fs_E g μ d u Q pc (fi_s1 g μ' K) := by
  subst hu'
  intro ls st M hk
  unfold fi_s1 at hk
  split at hk
  · rename_i a t
    refine fs_dep (fun hdd => ?_)
    exact fs_goSN (As := [a]) (rest := t) hm hl (d' := d - 1) (by omega) rfl hu hd (hk.2 (d - 1) (by omega)) hk.1 (fun r M' hq => h _ _ _ hq)
  · exact hk.elim
theorem fo_sn2 {index : Nat} {host : String} (hm : fs_mS μ' 2) (hl : ((fs_iy μ).cls, index, fs_iy μ', host) ∈ fs_mn) (hdp : fs_dp μ' + 1 ≤ fs_dp μ) (hu : u.1 + fs_mc μ' ≤ fs_mc μ ∧ u.2 + fs_ms μ' ≤ fs_ms μ) (hu' : (u.1 + fs_mc μ', u.2 + fs_ms μ') = u') (hd : decode (fs_ic μ) pc = .ok (.invokestatic index, 3)) (h : fs_E g μ d u' Q (pc + 3) K) : fs_E g μ d u Q pc (fi_s2 g μ' K) := by
  subst hu'
  intro ls st M hk
  unfold fi_s2 at hk
  split at hk
  · rename_i b a t
    refine fs_dep (fun hdd => ?_)
    exact fs_goSN (As := [a, b]) (rest := t) hm hl (d' := d - 1) (by omega) rfl hu hd (hk.2 (d - 1) (by omega)) hk.1 (fun r M' hq => h _ _ _ hq)
  · exact hk.elim
theorem fo_sn3 {index : Nat} {host : String} (hm : fs_mS μ' 3) (hl : ((fs_iy μ).cls, index, fs_iy μ', host) ∈ fs_mn) (hdp : fs_dp μ' + 1 ≤ fs_dp μ) (hu : u.1 + fs_mc μ' ≤ fs_mc μ ∧ u.2 + fs_ms μ' ≤ fs_ms μ) (hu' : (u.1 + fs_mc μ', u.2 + fs_ms μ') = u') (hd : decode (fs_ic μ) pc = .ok (.invokestatic index, 3)) (h : fs_E g μ d u' Q (pc + 3) K) : fs_E g μ d u Q pc (fi_s3 g μ' K) := by
  subst hu'
  intro ls st M hk
  unfold fi_s3 at hk
  split at hk
  · rename_i c b a t
    refine fs_dep (fun hdd => ?_)
    exact fs_goSN (As := [a, b, c]) (rest := t) hm hl (d' := d - 1) (by omega) rfl hu hd (hk.2 (d - 1) (by omega)) hk.1 (fun r M' hq => h _ _ _ hq)
  · exact hk.elim
theorem fo_v0 {index ci : Nat} (hm : fs_mV μ' ci 0) (hl : Cond.methodLink (fs_iy μ).cls index (fs_iy μ') ∈ fs_tb) (hdp : fs_dp μ' + 1 ≤ fs_dp μ) (hu : u.1 + fs_mc μ' ≤ fs_mc μ ∧ u.2 + fs_ms μ' ≤ fs_ms μ) (hu' : (u.1 + fs_mc μ', u.2 + fs_ms μ') = u') (hd : decode (fs_ic μ) pc = .ok (.invokevirtual index, 3)) (h : fs_E g μ d u' Q (pc + 3) K) : fs_E g μ d u Q pc (fi_v0 g ci μ' K) := by
  subst hu'
  intro ls st M hk
  unfold fi_v0 at hk
  split at hk
  · rename_i k t
    refine fs_dep (fun hdd => ?_)
    obtain ⟨h1, ⟨rs, h2⟩, h3⟩ := hk
    exact fs_goV (As := []) (rest := t) hm hl (d' := d - 1) (by omega) rfl hu hd h2 (h3 (d - 1) (by omega)) h1 (fun r M' hq => h _ _ _ hq)
  · exact hk.elim
theorem fo_v1 {index ci : Nat} (hm : fs_mV μ' ci 1) (hl : Cond.methodLink (fs_iy μ).cls index (fs_iy μ') ∈ fs_tb) (hdp : fs_dp μ' + 1 ≤ fs_dp μ) (hu : u.1 + fs_mc μ' ≤ fs_mc μ ∧ u.2 + fs_ms μ' ≤ fs_ms μ) (hu' : (u.1 + fs_mc μ', u.2 + fs_ms μ') = u') (hd : decode (fs_ic μ) pc = .ok (.invokevirtual index, 3)) (h : fs_E g μ d u' Q (pc + 3) K) : fs_E g μ d u Q pc (fi_v1 g ci μ' K) := by
  subst hu'
  intro ls st M hk
  unfold fi_v1 at hk
  split at hk
  · rename_i a k t
    refine fs_dep (fun hdd => ?_)
    obtain ⟨h1, ⟨rs, h2⟩, h3⟩ := hk
    exact fs_goV (As := [a]) (rest := t) hm hl (d' := d - 1) (by omega) rfl hu hd h2 (h3 (d - 1) (by omega)) h1 (fun r M' hq => h _ _ _ hq)
  · exact hk.elim
theorem fo_v2 {index ci : Nat} (hm : fs_mV μ' ci 2) (hl : Cond.methodLink (fs_iy μ).cls index (fs_iy μ') ∈ fs_tb) (hdp : fs_dp μ' + 1 ≤ fs_dp μ) (hu : u.1 + fs_mc μ' ≤ fs_mc μ ∧ u.2 + fs_ms μ' ≤ fs_ms μ) (hu' : (u.1 + fs_mc μ', u.2 + fs_ms μ') = u') (hd : decode (fs_ic μ) pc = .ok (.invokevirtual index, 3)) (h : fs_E g μ d u' Q (pc + 3) K) : fs_E g μ d u Q pc (fi_v2 g ci μ' K) := by
  subst hu'
  intro ls st M hk
  unfold fi_v2 at hk
  split at hk
  · rename_i b a k t
    refine fs_dep (fun hdd => ?_)
    obtain ⟨h1, ⟨rs, h2⟩, h3⟩ := hk
    exact fs_goV (As := [a, b]) (rest := t) hm hl (d' := d - 1) (by omega) rfl hu hd h2 (h3 (d - 1) (by omega)) h1 (fun r M' hq => h _ _ _ hq)
  · exact hk.elim
theorem fo_v3 {index ci : Nat} (hm : fs_mV μ' ci 3) (hl : Cond.methodLink (fs_iy μ).cls index (fs_iy μ') ∈ fs_tb) (hdp : fs_dp μ' + 1 ≤ fs_dp μ) (hu : u.1 + fs_mc μ' ≤ fs_mc μ ∧ u.2 + fs_ms μ' ≤ fs_ms μ) (hu' : (u.1 + fs_mc μ', u.2 + fs_ms μ') = u') (hd : decode (fs_ic μ) pc = .ok (.invokevirtual index, 3)) (h : fs_E g μ d u' Q (pc + 3) K) : fs_E g μ d u Q pc (fi_v3 g ci μ' K) := by
  subst hu'
  intro ls st M hk
  unfold fi_v3 at hk
  split at hk
  · rename_i c b a k t
    refine fs_dep (fun hdd => ?_)
    obtain ⟨h1, ⟨rs, h2⟩, h3⟩ := hk
    exact fs_goV (As := [a, b, c]) (rest := t) hm hl (d' := d - 1) (by omega) rfl hu hd h2 (h3 (d - 1) (by omega)) h1 (fun r M' hq => h _ _ _ hq)
  · exact hk.elim
theorem fo_v4 {index ci : Nat} (hm : fs_mV μ' ci 4) (hl : Cond.methodLink (fs_iy μ).cls index (fs_iy μ') ∈ fs_tb) (hdp : fs_dp μ' + 1 ≤ fs_dp μ) (hu : u.1 + fs_mc μ' ≤ fs_mc μ ∧ u.2 + fs_ms μ' ≤ fs_ms μ) (hu' : (u.1 + fs_mc μ', u.2 + fs_ms μ') = u') (hd : decode (fs_ic μ) pc = .ok (.invokevirtual index, 3)) (h : fs_E g μ d u' Q (pc + 3) K) : fs_E g μ d u Q pc (fi_v4 g ci μ' K) := by
  subst hu'
  intro ls st M hk
  unfold fi_v4 at hk
  split at hk
  · rename_i e c b a k t
    refine fs_dep (fun hdd => ?_)
    obtain ⟨h1, ⟨rs, h2⟩, h3⟩ := hk
    exact fs_goV (As := [a, b, c, e]) (rest := t) hm hl (d' := d - 1) (by omega) rfl hu hd h2 (h3 (d - 1) (by omega)) h1 (fun r M' hq => h _ _ _ hq)
  · exact hk.elim
theorem fo_v5 {index ci : Nat} (hm : fs_mV μ' ci 5) (hl : Cond.methodLink (fs_iy μ).cls index (fs_iy μ') ∈ fs_tb) (hdp : fs_dp μ' + 1 ≤ fs_dp μ) (hu : u.1 + fs_mc μ' ≤ fs_mc μ ∧ u.2 + fs_ms μ' ≤ fs_ms μ) (hu' : (u.1 + fs_mc μ', u.2 + fs_ms μ') = u') (hd : decode (fs_ic μ) pc = .ok (.invokevirtual index, 3)) (h : fs_E g μ d u' Q (pc + 3) K) : fs_E g μ d u Q pc (fi_v5 g ci μ' K) := by
  subst hu'
  intro ls st M hk
  unfold fi_v5 at hk
  split at hk
  · rename_i f e c b a k t
    refine fs_dep (fun hdd => ?_)
    obtain ⟨h1, ⟨rs, h2⟩, h3⟩ := hk
    exact fs_goV (As := [a, b, c, e, f]) (rest := t) hm hl (d' := d - 1) (by omega) rfl hu hd h2 (h3 (d - 1) (by omega)) h1 (fun r M' hq => h _ _ _ hq)
  · exact hk.elim
theorem fo_n0 {index : Nat} (hm : fs_mI μ' 0) (hl : Cond.methodLink (fs_iy μ).cls index (fs_iy μ') ∈ fs_tb) (hdp : fs_dp μ' + 1 ≤ fs_dp μ) (hu : u.1 + fs_mc μ' ≤ fs_mc μ ∧ u.2 + fs_ms μ' ≤ fs_ms μ) (hu' : (u.1 + fs_mc μ', u.2 + fs_ms μ') = u') (hd : decode (fs_ic μ) pc = .ok (.invokespecial index, 3)) (h : fs_E g μ d u' Q (pc + 3) K) : fs_E g μ d u Q pc (fi_n0 g μ' K) := by
  subst hu'
  intro ls st M hk
  unfold fi_n0 at hk
  split at hk
  · rename_i k t
    refine fs_dep (fun hdd => ?_)
    exact fs_goI (As := []) (rest := t) hm hl (d' := d - 1) (by omega) rfl hu hd (hk.2 (d - 1) (by omega)) hk.1 (fun r M' hq => h _ _ _ hq)
  · exact hk.elim
theorem fo_n1 {index : Nat} (hm : fs_mI μ' 1) (hl : Cond.methodLink (fs_iy μ).cls index (fs_iy μ') ∈ fs_tb) (hdp : fs_dp μ' + 1 ≤ fs_dp μ) (hu : u.1 + fs_mc μ' ≤ fs_mc μ ∧ u.2 + fs_ms μ' ≤ fs_ms μ) (hu' : (u.1 + fs_mc μ', u.2 + fs_ms μ') = u') (hd : decode (fs_ic μ) pc = .ok (.invokespecial index, 3)) (h : fs_E g μ d u' Q (pc + 3) K) : fs_E g μ d u Q pc (fi_n1 g μ' K) := by
  subst hu'
  intro ls st M hk
  unfold fi_n1 at hk
  split at hk
  · rename_i a k t
    refine fs_dep (fun hdd => ?_)
    exact fs_goI (As := [a]) (rest := t) hm hl (d' := d - 1) (by omega) rfl hu hd (hk.2 (d - 1) (by omega)) hk.1 (fun r M' hq => h _ _ _ hq)
  · exact hk.elim
theorem fo_n2 {index : Nat} (hm : fs_mI μ' 2) (hl : Cond.methodLink (fs_iy μ).cls index (fs_iy μ') ∈ fs_tb) (hdp : fs_dp μ' + 1 ≤ fs_dp μ) (hu : u.1 + fs_mc μ' ≤ fs_mc μ ∧ u.2 + fs_ms μ' ≤ fs_ms μ) (hu' : (u.1 + fs_mc μ', u.2 + fs_ms μ') = u') (hd : decode (fs_ic μ) pc = .ok (.invokespecial index, 3)) (h : fs_E g μ d u' Q (pc + 3) K) : fs_E g μ d u Q pc (fi_n2 g μ' K) := by
  subst hu'
  intro ls st M hk
  unfold fi_n2 at hk
  split at hk
  · rename_i b a k t
    refine fs_dep (fun hdd => ?_)
    exact fs_goI (As := [a, b]) (rest := t) hm hl (d' := d - 1) (by omega) rfl hu hd (hk.2 (d - 1) (by omega)) hk.1 (fun r M' hq => h _ _ _ hq)
  · exact hk.elim
theorem fo_nn0 {index : Nat} {host : String} (hm : fs_mI μ' 0) (hl : ((fs_iy μ).cls, index, fs_iy μ', host) ∈ fs_mn) (hdp : fs_dp μ' + 1 ≤ fs_dp μ) (hu : u.1 + fs_mc μ' ≤ fs_mc μ ∧ u.2 + fs_ms μ' ≤ fs_ms μ) (hu' : (u.1 + fs_mc μ', u.2 + fs_ms μ') = u') (hd : decode (fs_ic μ) pc = .ok (.invokespecial index, 3)) (h : fs_E g μ d u' Q (pc + 3) K) : fs_E g μ d u Q pc (fi_n0 g μ' K) := by
  subst hu'
  intro ls st M hk
  unfold fi_n0 at hk
  split at hk
  · rename_i k t
    refine fs_dep (fun hdd => ?_)
    exact fs_goIN (As := []) (rest := t) hm hl (d' := d - 1) (by omega) rfl hu hd (hk.2 (d - 1) (by omega)) hk.1 (fun r M' hq => h _ _ _ hq)
  · exact hk.elim
end FO6
