/-! ===== exceptions: a bad index ===== -/
def fx_X (g : fs_G) (M' : fs_M) : String → State → State → Prop := fun E st t => E = fs_IO ∧ fs_W g M' t.heap ∧ va_F (fs_A g) st t
/-- a method that may make an exception: one cell of six slots, eight frames -/
def fx_i (n : Nat) (μ : fs_I) : fs_I := (fs_iy μ, fs_ic μ, fs_iL μ, fs_ir μ, 1, 6, n)
def fx_N : Array Value → State → Outcome → State → Prop := fun _ _ _ _ => False
/-- the contract of a method that throws -/
def fx_T (g : fs_G) (μ : fs_I) (d : Nat) (av : List Value) (M M' : fs_M) : Prop :=
  vx_Met g.1 (fs_iy μ) (.code (fs_iy μ) (fs_ic μ) (fs_iL μ) (fs_ir μ) :: fs_tb) (fs_rm μ d) (fs_Pc g M av) fx_N (fx_X g M') (fs_mc μ) (fs_ms μ) (fs_A g)
def fx_R (g : fs_G) (μ : fs_I) (d : Nat) (pc : Nat) (ls st : List Value) (M M' : fs_M) : Prop :=
  ∀ (p : Program) (e : Env) (R : Room) (s : State) (m : MethodId) (args : Array Value) (below : List Frame) (meth : Method) (c : Code) (H : Heap) (locs : List Loc) (lsA : Array Slot), fs_C g μ d p R s m args meth c → (∀ x ∈ c.exceptionTable.toList, False) → va_S (fs_A g) s.heap H locs → fs_W g M H → fs_L g lsA ls (fs_iL μ) →
    W p g.1 e R s m args below meth c H locs 0 0 (vx_MQ below fx_N (fx_X g M') args s (fs_mc μ) (fs_ms μ) (fs_A g)) (F0 m pc lsA (st.map (fs_cv g)))
section FX1
variable {g : fs_G} {μ μ' : fs_I} {d : Nat} {pc : Nat} {ls st : List Value} {M M' : fs_M}
theorem fx_enter {av : List Value} (hp : plainName (fs_iy μ).cls = true) (hav : ∀ v ∈ av, fs_ok v = true) (hlen : av.length ≤ fs_iL μ) (hdp : fs_dp μ ≤ d)
    (h : fx_R g μ d 0 (av ++ List.replicate (fs_iL μ - av.length) .null) [] M M') : fx_T g μ d av M M' := by
  refine vx_ofW (cc := fs_ic μ) (maxL := fs_iL μ) (ret := fs_ir μ) hp rfl ?_
  intro p e s m args below meth c s₁ B hml hx hv
  obtain ⟨rfl, hB, hK, hW⟩ := hv
  have hts := atoms_spec (ws := Cond.code (fs_iy μ) (fs_ic μ) (fs_iL μ) (fs_ir μ) :: fs_tb) B.pre
  have hl := lv_entry (av.map (fs_cv g)) (n := fs_iL μ) (by rw [fs_sl_len hav]; exact hlen)
  rw [lg_entry_eq]
  generalize (lg_sl (av.map (fs_cv g)) ++ List.replicate (fs_iL μ - (lg_sl (av.map (fs_cv g))).length) Slot.unset).toArray = lsA at hl ⊢
  refine h p e (fs_rm μ d) s m _ below meth c s.heap [] lsA ⟨B.exec, B.bytes, B.returns, B.notSynchronized, hml, findClass_of_methodNamed B.named, fun w hw => hts w (List.mem_cons_of_mem _ hw), (name_of_methodNamed B.named B.method).1, rfl, hK, hB, hdp⟩ hx va_S.rf hW ⟨?_, by simp; omega⟩
  have e := fs_lv_args (g := g) av 0 (fs_iL μ - av.length) hav
  simp only [Nat.zero_add] at e
  unfold fs_lv
  rw [e]
  exact hl
theorem fx_iload_n {k : Fin 4} {i : Nat} {x : Int32} (hd : decode (fs_ic μ) pc = .ok (.iload_n k, 1)) (hi : (k : Nat) = i) (hx : ls[i]? = some (.int x)) (h : fx_R g μ d (pc + 1) ls (.int x :: st) M M') : fx_R g μ d pc ls st M M' := by
  intro p e R s m args below meth c H locs lsA C hT hS hW hL
  exact lv_iload_n C.1 C.2.1 hd hi (fs_lv_at hL hx rfl) (h p e R s m args below meth c H locs lsA C hT hS hW hL)
theorem fx_aload_n {k : Fin 4} {i : Nat} {x : Nat} (hd : decode (fs_ic μ) pc = .ok (.aload_n k, 1)) (hi : (k : Nat) = i) (hx : ls[i]? = some (.ref x)) (h : fx_R g μ d (pc + 1) ls (.ref x :: st) M M') : fx_R g μ d pc ls st M M' := by
  intro p e R s m args below meth c H locs lsA C hT hS hW hL
  exact lv_aload_n C.1 C.2.1 hd hi (fs_lv_at hL hx rfl) (h p e R s m args below meth c H locs lsA C hT hS hW hL)
theorem fx_bipush {n : Int} {v : Int32} (hd : decode (fs_ic μ) pc = .ok (.bipush n, 2)) (hv : (Int8.ofInt n).toInt32 = v) (h : fx_R g μ d (pc + 2) ls (.int v :: st) M M') : fx_R g μ d pc ls st M M' := by
  intro p e R s m args below meth c H locs lsA C hT hS hW hL
  exact lv_bipush C.1 C.2.1 hd hv (h p e R s m args below meth c H locs lsA C hT hS hW hL)
theorem fx_if_lt {x : Int32} {off : Int} {tgt : Nat} (hd : decode (fs_ic μ) pc = .ok (.ifCond .lt off, 3)) (ht : (pc : Int) + off = (tgt : Int)) (h1 : x < 0 → fx_R g μ d tgt ls st M M') (h2 : ¬ x < 0 → fx_R g μ d (pc + 3) ls st M M') : fx_R g μ d pc ls (.int x :: st) M M' := by
  intro p e R s m args below meth c H locs lsA C hT hS hW hL
  exact lv_if_lt C.1 C.2.1 hd ht (fun q => h1 q p e R s m args below meth c H locs lsA C hT hS hW hL) (fun q => h2 q p e R s m args below meth c H locs lsA C hT hS hW hL)
theorem fx_icmp_lt {x y : Int32} {off : Int} {tgt : Nat} (hd : decode (fs_ic μ) pc = .ok (.if_icmp .lt off, 3)) (ht : (pc : Int) + off = (tgt : Int)) (h1 : x < y → fx_R g μ d tgt ls st M M') (h2 : ¬ x < y → fx_R g μ d (pc + 3) ls st M M') : fx_R g μ d pc ls (.int y :: .int x :: st) M M' := by
  intro p e R s m args below meth c H locs lsA C hT hS hW hL
  exact lv_icmp_lt C.1 C.2.1 hd ht (fun q => h1 q p e R s m args below meth c H locs lsA C hT hS hW hL) (fun q => h2 q p e R s m args below meth c H locs lsA C hT hS hW hL)
theorem fx_getf {ci j N index : Nat} {C ref : String} {T : u_T} {ty0 : Nat → FieldType} {k : Nat} {rs : List (Option (Option Nat))} {v : Value} (hC : fs_cl ci C T N ty0) (hj : j < N) (hr : ref = (T j).1) (hl : Cond.fieldLink (fs_iy μ).cls index ref (T j).2.1 (T j).2.2.1 ∈ fs_tb) (hd : decode (fs_ic μ) pc = .ok (.getfield index, 3)) (hM : M.1.1[k]? = some (.inr (ci, rs))) (hv : (fs_fl g M.2.1 k rs)[j]? = some (fs_cv g v)) (h : fx_R g μ d (pc + 3) ls (v :: st) M M') : fx_R g μ d pc ls (.ref k :: st) M M' := by
  subst hr
  intro p e R s m args below meth c H locs lsA C0 hT hS hW hL
  have hg := fs_wl_get (g := g) hM
  simp only [List.map_cons]
  rw [show fs_cv g (.ref k) = .ref (fs_B g + k) from by simp only [fs_cv, fs_lt hW hM]]
  exact va_get C0.1 C0.2.1 C0.2.2.2.2.2.2.1 hC.2.1 C0.2.2.2.2.2.1 C0.2.2.2.2.2.2.2.2.2.1.1 hW.1 k hg hC.1 j hj (C0.2.2.2.2.2.2.1 _ hl) (fun _ x => x) hv hd (h p e R s m args below meth c H locs lsA C0 hT hS hW hL)
/-- a call that throws -/
theorem fx_thr {d' n index : Nat} {As rest : List Value} (hm : fs_mS μ' n) (hl : Cond.methodLink (fs_iy μ).cls index (fs_iy μ') ∈ fs_tb) (hdd : d' + 1 ≤ d) (hn : As.length = n) (hu : fs_mc μ' ≤ fs_mc μ ∧ fs_ms μ' ≤ fs_ms μ) (hd : decode (fs_ic μ) pc = .ok (.invokestatic index, 3))
    (hM : fx_T g μ' d' As M M') (hr : rest.length ≤ 4) : fx_R g μ d pc ls (As.reverse ++ rest) M M' := by
  intro p e R s m args below meth c H locs lsA C0 hT hS hW hL
  obtain ⟨⟨hc, hi, hD, hiL⟩, hst⟩ := hm
  have hts := C0.2.2.2.2.2.2.1
  have hRe := C0.2.2.2.2.2.2.2.2.1
  have hrun := vx_runS (R := R) (e := e) (below := below) (meth := meth) (locs := locs) (cells := 0) (slots := 0) (H := H) (As := As.map (fs_cv g)) (rest := rest.map (fs_cv g)) (g := F0 m pc lsA ((As.reverse ++ rest).map (fs_cv g))) ⟨C0.1, C0.2.1, C0.2.2.2.2.1, C0.2.2.2.2.2.1, hts⟩ hM (va_cwS n hts (fun w hw => by
    simp only [va_wsS, List.mem_append, List.mem_cons, List.not_mem_nil, or_false] at hw
    rcases hw with (rfl | rfl | rfl) | hw
    · exact fs_good hl
    · exact fs_good hst
    · exact fs_good hi
    · exact fs_goodC hc w (List.mem_cons.mpr hw)) rfl rfl rfl hD ⟨by rw [hRe]; exact hdd, by rw [hRe]; show 8 + (fs_iL μ' + 11) + 64 * d' ≤ 64 * d; omega⟩) ⟨fs_blind, fs_pre hS C0.2.2.2.2.2.2.2.2.2.1 C0.2.2.2.2.2.2.2.2.2.2.1 hW⟩ rfl (by simpa using hn) (hL.1.1) (by simp) (by simpa using fs_cats hr) hd (by rw [hRe]; exact ⟨by rw [Nat.zero_add]; exact hu.1, by rw [Nat.zero_add]; exact hu.2⟩)
  intro T hTh X
  rcases hrun T hTh X with ⟨v, st₀, t, T', L, h0, X', hL', e1, e2, hq, st⟩ | ⟨q, st₀, t, T', L, E, ce, h0, X', hL', e1, e2, ⟨hE, hW', hz, hk⟩, hce, hcv, hcl, st⟩
  · exact hq.elim
  · rw [h0] at hz hk
    obtain ⟨t2, a1, b1⟩ := vx_out (Qc := fx_N) (XC := fx_X g M') (below := below) (free := fs_A g) (mc := fs_mc μ) (ms := fs_ms μ) (pc := pc) (ls := lsA) (rest := rest.map (fs_cv g)) (locs := locs ++ L) (H := T'.heap) (cells := 0 + fs_mc μ') (slots := 0 + fs_ms μ') (fun x hx => (hT x hx).elim) C0.2.2.2.1 (by rw [e1]; exact hce) hcv hcl (fun t' ht' _ => ⟨hE, by rw [ht', e1]; exact hW', by rw [ht', e1]; exact Nat.le_trans hS.1 hz, fun a h1 h2 => by rw [ht', e1, hk a (Nat.lt_of_lt_of_le h1 hS.1) h2]; exact hS.2.1 a h1 h2⟩) (fun z hz' => by
      rcases List.mem_append.mp hz' with h | h
      · exact hS.2.2 z h
      · exact hL' z h) (by rw [Nat.zero_add]; exact hu.1) (by rw [Nat.zero_add]; exact hu.2) T' rfl X'
    exact ⟨t2, st.trans a1, b1⟩
/-- a call that returns -/
theorem fx_ok {d' n index : Nat} {As rest : List Value} {Q' : Option Value → fs_M → Prop} (hm : fs_mS μ' n) (hl : Cond.methodLink (fs_iy μ).cls index (fs_iy μ') ∈ fs_tb) (hdd : d' + 1 ≤ d) (hn : As.length = n) (hu : fs_mc μ' = 0 ∧ fs_ms μ' = 0) (hd : decode (fs_ic μ) pc = .ok (.invokestatic index, 3))
    (hM : fs_T g μ' d' As M Q') (hr : rest.length ≤ 4) (h : ∀ r M1, Q' r M1 → fx_R g μ d (pc + 3) ls (r.toList ++ rest) M1 M') : fx_R g μ d pc ls (As.reverse ++ rest) M M' := by
  intro p e R s m args below meth c H locs lsA C0 hT hS hW hL
  obtain ⟨⟨hc, hi, hD, hiL⟩, hst⟩ := hm
  have hts := C0.2.2.2.2.2.2.1
  have hRe := C0.2.2.2.2.2.2.2.2.1
  refine fs_back (va_runS (As := As.map (fs_cv g)) (rest := rest.map (fs_cv g)) ⟨C0.1, C0.2.1, C0.2.2.2.2.1, C0.2.2.2.2.2.1, hts⟩ hM (va_cwS n hts (fun w hw => ?_) rfl rfl rfl hD ⟨by rw [hRe]; exact hdd, by rw [hRe]; show 8 + (fs_iL μ' + 11) + 64 * d' ≤ 64 * d; omega⟩) ⟨fs_blind, fs_pre hS C0.2.2.2.2.2.2.2.2.2.1 C0.2.2.2.2.2.2.2.2.2.2.1 hW⟩ rfl (by simpa using hn) (hL.1.1) (by simp) (by simpa using fs_cats hr) hd (by rw [hRe, hu.1, hu.2]; exact ⟨Nat.zero_le _, Nat.zero_le _⟩)) hS (fun r M1 H1 locs1 hq hW1 hS1 => ?_)
  · simp only [va_wsS, List.mem_append, List.mem_cons, List.not_mem_nil, or_false] at hw
    rcases hw with (rfl | rfl | rfl) | hw
    · exact fs_good hl
    · exact fs_good hst
    · exact fs_good hi
    · exact fs_goodC hc w (List.mem_cons.mpr hw)
  · rw [fs_stk, hu.1, hu.2]
    exact h r M1 hq p e R s m args below meth c H1 locs1 lsA C0 hT hS1 hW1 hL
end FX1
/-- the words of the throw -/
def fx_ws : List Cond := vx_atS "FilmSchedule" 276 fs_IO ["java/lang/RuntimeException", "java/lang/Exception"]
def fx_pl : List Nat := [105, 1016, 1025, 1027, 1030, 1032, 1017, 1018, 117, 118, 1019, 1024, 1028, 1048, 1006, 1049, 1008, 1050, 1010, 1020, 1022, 1012, 1044, 1045, 1047, 1012, 1035, 1036, 1037, 1038, 1038, 1039, 1040, 1041, 1041, 1042, 1043, 1044, 1034, 995, 1003, 1004, 1005, 1007, 1009, 1011, 1015, 1014, 1013]
def fx_bd : List Cond := [.castable fs_IO fs_IO, .declares (Bundle.initS "java/lang/RuntimeException"), .declares (Bundle.initS "java/lang/Exception"), .declares (Bundle.initS Bundle.tN)]
theorem fx_w1 : ∀ w ∈ fx_ws.filter goodWord, w ∈ fs_tb := by
  intro w hw
  have e : fx_ws.filter goodWord = fx_pl.filterMap (fun i => lw_tbl[i]?) := by decide +kernel
  have hg := (List.mem_filter.mp hw).2
  rw [e] at hw
  obtain ⟨i, -, hi⟩ := List.mem_filterMap.mp hw
  exact fs_in i hi hg
theorem fx_w2 : ∀ w ∈ fx_ws.filter (fun w => !goodWord w), w ∈ fx_bd := by decide +kernel
theorem fx_w3 : ∀ w ∈ Cond.classLink "FilmSchedule" 272 fs_IO :: Cond.initialized fs_IO :: fx_ws, vx_ot w = true := by decide +kernel
theorem fx_w4 : Cond.classLink "FilmSchedule" 272 fs_IO ∈ fs_tb := fs_in 994 (by decide +kernel) rfl
theorem fx_w5 : Cond.initialized fs_IO ∈ fs_tb := fs_in 108 (by decide +kernel) rfl
theorem fx_at {g : fs_G} {s : State} {args : Array Value} (hts : ∀ w ∈ fs_tb, w.before args s = true) (hK : fs_K g s) : ∀ w ∈ fx_ws, w.before args s = true := by
  refine vx_hat (fun w hw => hts w (fx_w1 w hw)) fx_w2 ?_
  obtain ⟨-, ⟨-, -, -, h6, h7⟩, -⟩ := hK
  refine vx_c (va_Nw.use rfl h6) (vx_c (va_Nw.use rfl (h7 _ (by simp [fs_ex]))) (vx_c (va_Nw.use rfl (h7 _ (by simp [fs_ex]))) (vx_c (va_Nw.use rfl (h7 _ (by simp [fs_ex]))) vx_n)))
