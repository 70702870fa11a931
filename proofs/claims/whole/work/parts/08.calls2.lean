/-! ===== more calls ===== -/
section FO5
variable {g : fs_G} {μ μ' : fs_I} {d : Nat} {u : Nat × Nat} {Q : Option Value → fs_M → Prop} {pc : Nat} {K K1 K2 : fs_P}
theorem fs_goV {d' n index ci k : Nat} {As rest ls : List Value} {M : fs_M} {rs : List (Option (Option Nat))} {Q' : Option Value → fs_M → Prop} (hm : fs_mV μ' ci n) (hl : Cond.methodLink (fs_iy μ).cls index (fs_iy μ') ∈ fs_tb) (hdd : d' + 1 ≤ d) (hn : As.length = n) (hu : u.1 + fs_mc μ' ≤ fs_mc μ ∧ u.2 + fs_ms μ' ≤ fs_ms μ) (hd : decode (fs_ic μ) pc = .ok (.invokevirtual index, 3))
    (hk : M.1.1[k]? = some (.inr (ci, rs))) (hM : fs_T g μ' d' (.ref k :: As) M Q') (hr : rest.length ≤ 4) (h : ∀ r M', Q' r M' → fs_R g μ d (u.1 + fs_mc μ', u.2 + fs_ms μ') (pc + 3) ls (r.toList ++ rest) M' Q) : fs_R g μ d u pc ls (As.reverse ++ .ref k :: rest) M Q := by
  intro p e R s m args below meth c H locs lsA C0 hS hW hL
  obtain ⟨⟨hc, hi, hD, hiL⟩, hin, hse, T, N, hcl⟩ := hm
  have hts := C0.2.2.2.2.2.2.1
  have hRe := C0.2.2.2.2.2.2.2.2.1
  have hK := C0.2.2.2.2.2.2.2.2.2.1
  refine fs_back (va_runV (C := (fs_iy μ').cls) (b := fs_ad g k) (As := As.map (fs_cv g)) (rest := rest.map (fs_cv g)) ⟨C0.1, C0.2.1, C0.2.2.2.2.1, C0.2.2.2.2.2.1, hts⟩ hM (cwV n hts (fun w hw => ?_) rfl rfl rfl ⟨rfl, hD⟩ ⟨by rw [hRe]; exact hdd, by rw [hRe]; show 8 + (fs_iL μ' + 11) + 64 * d' ≤ 64 * d; omega⟩) ⟨fs_blind (M := M), ?_, fs_pre (av := .ref k :: As) hS hK C0.2.2.2.2.2.2.2.2.2.2.1 hW⟩ rfl (by simpa using hn) (hL.1.1) (by simp [fs_cv]) (by simpa using fs_cats hr) hd (by rw [hRe]; exact hu)) hS (fun r M' H1 locs1 hq hW1 hS1 => ?_)
  · simp only [wsV, List.mem_append, List.mem_cons, List.not_mem_nil, or_false] at hw
    rcases hw with (rfl | rfl | rfl | rfl) | hw
    · exact fs_good hl
    · exact fs_good hin
    · exact fs_good hse
    · exact fs_good hi
    · exact fs_goodC hc w (List.mem_cons.mpr hw)
  · rw [fs_lt hW hk]
    exact va_recv hK.1 hW.1 hcl (fs_wl_get hk)
  · rw [fs_stk]
    exact h r M' hq p e R s m args below meth c H1 locs1 lsA C0 hS1 hW1 hL
theorem fs_goI {d' n index k : Nat} {As rest ls : List Value} {M : fs_M} {Q' : Option Value → fs_M → Prop} (hm : fs_mI μ' n) (hl : Cond.methodLink (fs_iy μ).cls index (fs_iy μ') ∈ fs_tb) (hdd : d' + 1 ≤ d) (hn : As.length = n) (hu : u.1 + fs_mc μ' ≤ fs_mc μ ∧ u.2 + fs_ms μ' ≤ fs_ms μ) (hd : decode (fs_ic μ) pc = .ok (.invokespecial index, 3))
    (hM : fs_T g μ' d' (.ref k :: As) M Q') (hr : rest.length ≤ 4) (h : ∀ r M', Q' r M' → fs_R g μ d (u.1 + fs_mc μ', u.2 + fs_ms μ') (pc + 3) ls (r.toList ++ rest) M' Q) : fs_R g μ d u pc ls (As.reverse ++ .ref k :: rest) M Q := by
  intro p e R s m args below meth c H locs lsA C0 hS hW hL
  obtain ⟨⟨hc, hi, hD, hiL⟩, hin, hnm, hir⟩ := hm
  have hts := C0.2.2.2.2.2.2.1
  have hRe := C0.2.2.2.2.2.2.2.2.1
  have hK := C0.2.2.2.2.2.2.2.2.2.1
  unfold fs_T at hM
  rw [hir] at hM hc
  refine fs_back (va_runI (b := fs_ad g k) (As := As.map (fs_cv g)) (rest := rest.map (fs_cv g)) ⟨C0.1, C0.2.1, C0.2.2.2.2.1, C0.2.2.2.2.2.1, hts⟩ hM (cwI n hts (fs_goodC hc) rfl rfl rfl (hts _ hi) (hts _ hl) (hts _ hin) hnm hD ⟨by rw [hRe]; exact hdd, by rw [hRe]; show 8 + (fs_iL μ' + 11) + 64 * d' ≤ 64 * d; omega⟩) ⟨fs_blind (M := M), fs_pre (av := .ref k :: As) hS hK C0.2.2.2.2.2.2.2.2.2.2.1 hW⟩ rfl (by simpa using hn) (hL.1.1) (by simp [fs_cv]) (by simpa using fs_cats hr) hd (by rw [hRe]; exact hu)) hS (fun r M' H1 locs1 hq hW1 hS1 => ?_)
  rw [fs_stk]
  exact h r M' hq p e R s m args below meth c H1 locs1 lsA C0 hS1 hW1 hL
theorem fs_goSN {d' n index : Nat} {host : String} {As rest ls : List Value} {M : fs_M} {Q' : Option Value → fs_M → Prop} (hm : fs_mS μ' n) (hl : ((fs_iy μ).cls, index, fs_iy μ', host) ∈ fs_mn) (hdd : d' + 1 ≤ d) (hn : As.length = n) (hu : u.1 + fs_mc μ' ≤ fs_mc μ ∧ u.2 + fs_ms μ' ≤ fs_ms μ) (hd : decode (fs_ic μ) pc = .ok (.invokestatic index, 3))
    (hM : fs_T g μ' d' As M Q') (hr : rest.length ≤ 4) (h : ∀ r M', Q' r M' → fs_R g μ d (u.1 + fs_mc μ', u.2 + fs_ms μ') (pc + 3) ls (r.toList ++ rest) M' Q) : fs_R g μ d u pc ls (As.reverse ++ rest) M Q := by
  intro p e R s m args below meth c H locs lsA C0 hS hW hL
  obtain ⟨⟨hc, hi, hD, hiL⟩, hst⟩ := hm
  have hts := C0.2.2.2.2.2.2.1
  have hRe := C0.2.2.2.2.2.2.2.2.1
  have hK := C0.2.2.2.2.2.2.2.2.2.1
  refine fs_back (va_runSN (As := As.map (fs_cv g)) (rest := rest.map (fs_cv g)) ⟨C0.1, C0.2.1, C0.2.2.2.2.1, C0.2.2.2.2.2.1, hts⟩ hM ⟨va_cnB n hts (fs_goodC hc) rfl rfl rfl (hK.2.1.1 _ hl) (hts _ hi) hD ⟨by rw [hRe]; exact hdd, by rw [hRe]; show 8 + (fs_iL μ' + 11) + 64 * d' ≤ 64 * d; omega⟩, hts _ hst, trivial⟩ ⟨fs_blind (M := M), fs_pre hS hK C0.2.2.2.2.2.2.2.2.2.2.1 hW⟩ rfl (by simpa using hn) (hL.1.1) (by simp) (by simpa using fs_cats hr) hd (by rw [hRe]; exact hu)) hS (fun r M' H1 locs1 hq hW1 hS1 => ?_)
  rw [fs_stk]
  exact h r M' hq p e R s m args below meth c H1 locs1 lsA C0 hS1 hW1 hL
theorem fs_goIN {d' n index k : Nat} {host : String} {As rest ls : List Value} {M : fs_M} {Q' : Option Value → fs_M → Prop} (hm : fs_mI μ' n) (hl : ((fs_iy μ).cls, index, fs_iy μ', host) ∈ fs_mn) (hdd : d' + 1 ≤ d) (hn : As.length = n) (hu : u.1 + fs_mc μ' ≤ fs_mc μ ∧ u.2 + fs_ms μ' ≤ fs_ms μ) (hd : decode (fs_ic μ) pc = .ok (.invokespecial index, 3))
    (hM : fs_T g μ' d' (.ref k :: As) M Q') (hr : rest.length ≤ 4) (h : ∀ r M', Q' r M' → fs_R g μ d (u.1 + fs_mc μ', u.2 + fs_ms μ') (pc + 3) ls (r.toList ++ rest) M' Q) : fs_R g μ d u pc ls (As.reverse ++ .ref k :: rest) M Q := by
  intro p e R s m args below meth c H locs lsA C0 hS hW hL
  obtain ⟨⟨hc, hi, hD, hiL⟩, hin, hnm, hir⟩ := hm
  have hts := C0.2.2.2.2.2.2.1
  have hRe := C0.2.2.2.2.2.2.2.2.1
  have hK := C0.2.2.2.2.2.2.2.2.2.1
  unfold fs_T at hM
  rw [hir] at hM hc
  refine fs_back (va_runIN (b := fs_ad g k) (As := As.map (fs_cv g)) (rest := rest.map (fs_cv g)) ⟨C0.1, C0.2.1, C0.2.2.2.2.1, C0.2.2.2.2.2.1, hts⟩ hM ⟨va_cnB n hts (fs_goodC hc) rfl rfl rfl (hK.2.1.1 _ hl) (hts _ hi) hD ⟨by rw [hRe]; exact hdd, by rw [hRe]; show 8 + (fs_iL μ' + 11) + 64 * d' ≤ 64 * d; omega⟩, hnm, hts _ hin⟩ ⟨fs_blind (M := M), fs_pre (av := .ref k :: As) hS hK C0.2.2.2.2.2.2.2.2.2.2.1 hW⟩ rfl (by simpa using hn) (hL.1.1) (by simp [fs_cv]) (by simpa using fs_cats hr) hd (by rw [hRe]; exact hu)) hS (fun r M' H1 locs1 hq hW1 hS1 => ?_)
  rw [fs_stk]
  exact h r M' hq p e R s m args below meth c H1 locs1 lsA C0 hS1 hW1 hL
theorem fs_dep {ls st : List Value} {M : fs_M} (h : fs_dp μ ≤ d → fs_R g μ d u pc ls st M Q) : fs_R g μ d u pc ls st M Q := fun p e R s m args below meth c H locs lsA C0 hS hW hL => h C0.2.2.2.2.2.2.2.2.2.2.2 p e R s m args below meth c H locs lsA C0 hS hW hL
/-- static calls -/
def fi_s0 (g : fs_G) (μ' : fs_I) (K : fs_P) : fs_P := fun ls st M => st.length ≤ 4 ∧ fs_Ct g μ' [] M (fun r M' => K ls (r.toList ++ st) M')
def fi_s1 (g : fs_G) (μ' : fs_I) (K : fs_P) : fs_P := fun ls st M => match st with | a :: t => t.length ≤ 4 ∧ fs_Ct g μ' [a] M (fun r M' => K ls (r.toList ++ t) M') | _ => False
def fi_s2 (g : fs_G) (μ' : fs_I) (K : fs_P) : fs_P := fun ls st M => match st with | b :: a :: t => t.length ≤ 4 ∧ fs_Ct g μ' [a, b] M (fun r M' => K ls (r.toList ++ t) M') | _ => False
def fi_s3 (g : fs_G) (μ' : fs_I) (K : fs_P) : fs_P := fun ls st M => match st with | c :: b :: a :: t => t.length ≤ 4 ∧ fs_Ct g μ' [a, b, c] M (fun r M' => K ls (r.toList ++ t) M') | _ => False
def fi_s4 (g : fs_G) (μ' : fs_I) (K : fs_P) : fs_P := fun ls st M => match st with | e :: c :: b :: a :: t => t.length ≤ 4 ∧ fs_Ct g μ' [a, b, c, e] M (fun r M' => K ls (r.toList ++ t) M') | _ => False
/-- calls on an object of class ci -/
def fi_v0 (g : fs_G) (ci : Nat) (μ' : fs_I) (K : fs_P) : fs_P := fun ls st M => match st with | .ref k :: t => t.length ≤ 4 ∧ (∃ rs, M.1.1[k]? = some (.inr (ci, rs))) ∧ fs_Ct g μ' [.ref k] M (fun r M' => K ls (r.toList ++ t) M') | _ => False
def fi_v1 (g : fs_G) (ci : Nat) (μ' : fs_I) (K : fs_P) : fs_P := fun ls st M => match st with | a :: .ref k :: t => t.length ≤ 4 ∧ (∃ rs, M.1.1[k]? = some (.inr (ci, rs))) ∧ fs_Ct g μ' [.ref k, a] M (fun r M' => K ls (r.toList ++ t) M') | _ => False
def fi_v2 (g : fs_G) (ci : Nat) (μ' : fs_I) (K : fs_P) : fs_P := fun ls st M => match st with | b :: a :: .ref k :: t => t.length ≤ 4 ∧ (∃ rs, M.1.1[k]? = some (.inr (ci, rs))) ∧ fs_Ct g μ' [.ref k, a, b] M (fun r M' => K ls (r.toList ++ t) M') | _ => False
def fi_v3 (g : fs_G) (ci : Nat) (μ' : fs_I) (K : fs_P) : fs_P := fun ls st M => match st with | c :: b :: a :: .ref k :: t => t.length ≤ 4 ∧ (∃ rs, M.1.1[k]? = some (.inr (ci, rs))) ∧ fs_Ct g μ' [.ref k, a, b, c] M (fun r M' => K ls (r.toList ++ t) M') | _ => False
def fi_v4 (g : fs_G) (ci : Nat) (μ' : fs_I) (K : fs_P) : fs_P := fun ls st M => match st with | e :: c :: b :: a :: .ref k :: t => t.length ≤ 4 ∧ (∃ rs, M.1.1[k]? = some (.inr (ci, rs))) ∧ fs_Ct g μ' [.ref k, a, b, c, e] M (fun r M' => K ls (r.toList ++ t) M') | _ => False
def fi_v5 (g : fs_G) (ci : Nat) (μ' : fs_I) (K : fs_P) : fs_P := fun ls st M => match st with | f :: e :: c :: b :: a :: .ref k :: t => t.length ≤ 4 ∧ (∃ rs, M.1.1[k]? = some (.inr (ci, rs))) ∧ fs_Ct g μ' [.ref k, a, b, c, e, f] M (fun r M' => K ls (r.toList ++ t) M') | _ => False
/-- constructors -/
def fi_n0 (g : fs_G) (μ' : fs_I) (K : fs_P) : fs_P := fun ls st M => match st with | .ref k :: t => t.length ≤ 4 ∧ fs_Ct g μ' [.ref k] M (fun r M' => K ls (r.toList ++ t) M') | _ => False
def fi_n1 (g : fs_G) (μ' : fs_I) (K : fs_P) : fs_P := fun ls st M => match st with | a :: .ref k :: t => t.length ≤ 4 ∧ fs_Ct g μ' [.ref k, a] M (fun r M' => K ls (r.toList ++ t) M') | _ => False
def fi_n2 (g : fs_G) (μ' : fs_I) (K : fs_P) : fs_P := fun ls st M => match st with | b :: a :: .ref k :: t => t.length ≤ 4 ∧ fs_Ct g μ' [.ref k, a, b] M (fun r M' => K ls (r.toList ++ t) M') | _ => False
end FO5
