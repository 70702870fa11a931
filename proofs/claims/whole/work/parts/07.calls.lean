/-! ===== ends, entries, calls ===== -/
def fi_iret (Q : Option Value → fs_M → Prop) : fs_P := fun _ st M => match st with | [.int x] => Q (some (.int x)) M | _ => False
def fi_zret (Q : Option Value → fs_M → Prop) : fs_P := fun _ st M => match st with | [.int x] => (x = 0 ∨ x = 1) ∧ Q (some (.int x)) M | _ => False
def fi_vret (Q : Option Value → fs_M → Prop) : fs_P := fun _ st M => match st with | [] => Q none M | _ => False
section FO4
variable {g : fs_G} {μ μ' : fs_I} {d : Nat} {u : Nat × Nat} {Q : Option Value → fs_M → Prop} {pc : Nat} {K K1 K2 : fs_P}
theorem fo_iret (hu : u.1 ≤ fs_mc μ ∧ u.2 ≤ fs_ms μ) (hr : fs_ir μ = some .int) (hd : decode (fs_ic μ) pc = .ok (.ireturn, 1)) : fs_E g μ d u Q pc (fi_iret Q) := by
  intro ls st M hk p e R s m args below meth c H locs lsA C0 hS hW hL
  unfold fi_iret at hk
  split at hk
  · rename_i x
    refine W.widen hu.1 hu.2 ?_
    exact W.iret C0.1 C0.2.1 (C0.2.2.1.trans hr) (fun t ht _ => ⟨⟨some (.int x), M, rfl, hk, by rw [ht]; exact hW⟩, hS.F ht⟩) hS.2.2 hd C0.2.2.2.1
  · exact hk.elim
theorem fo_zret (hu : u.1 ≤ fs_mc μ ∧ u.2 ≤ fs_ms μ) (hr : fs_ir μ = some .boolean) (hd : decode (fs_ic μ) pc = .ok (.ireturn, 1)) : fs_E g μ d u Q pc (fi_zret Q) := by
  intro ls st M hk p e R s m args below meth c H locs lsA C0 hS hW hL
  unfold fi_zret at hk
  split at hk
  · rename_i x
    refine W.widen hu.1 hu.2 ?_
    exact W.zret C0.1 C0.2.1 (C0.2.2.1.trans hr) (fs_fit (z := true) rfl (fun _ => hk.1)).1 (fun t ht _ => ⟨⟨some (.int x), M, rfl, hk.2, by rw [ht]; exact hW⟩, hS.F ht⟩) hS.2.2 hd C0.2.2.2.1
  · exact hk.elim
theorem fo_vret (hu : u.1 ≤ fs_mc μ ∧ u.2 ≤ fs_ms μ) (hr : fs_ir μ = none) (hd : decode (fs_ic μ) pc = .ok (.return_, 1)) : fs_E g μ d u Q pc (fi_vret Q) := by
  intro ls st M hk p e R s m args below meth c H locs lsA C0 hS hW hL
  unfold fi_vret at hk
  split at hk
  · refine W.widen hu.1 hu.2 ?_
    exact W.vret C0.1 C0.2.1 (C0.2.2.1.trans hr) (fun t ht _ => ⟨⟨none, M, rfl, hk, by rw [ht]; exact hW⟩, hS.F ht⟩) hS.2.2 hd C0.2.2.2.1
  · exact hk.elim
theorem fs_lv_args {g : fs_G} : ∀ (av : List Value) (i n : Nat), (∀ v ∈ av, fs_ok v = true) → ((av ++ List.replicate n Value.null).mapIdx (fun j v => (i + j, fs_cv g v))).filter (fun q => fs_ok q.2) = lv_args i (av.map (fs_cv g))
  | [], i, n, _ => by
    simp only [List.nil_append, List.map_nil, lv_args]
    apply List.filter_eq_nil_iff.mpr
    intro q hq
    obtain ⟨j, hj, e⟩ := List.mem_mapIdx.mp hq
    rw [← e]
    simp [fs_cv, fs_ok]
  | v :: av, i, n, h => by
    have hv := h v List.mem_cons_self
    have ih := fs_lv_args (g := g) av (i + 1) n (fun w hw => h w (List.mem_cons_of_mem _ hw))
    have hc : ¬ (fs_cv g v).category = 2 := by cases v <;> simp_all [fs_ok, fs_cv, Value.category]
    have ho : fs_ok (fs_cv g v) = true := by cases v <;> simp_all [fs_ok, fs_cv]
    simp only [List.cons_append, List.mapIdx_cons, List.map_cons, lv_args, hc, if_false]
    rw [List.filter_cons, if_pos (by simpa using ho)]
    rw [show (fun j v => (i + (j + 1), fs_cv g v)) = (fun j v => (i + 1 + j, fs_cv g v)) from by funext j v; congr 1; omega, ih]
    rfl
theorem fs_sl_len {g : fs_G} {av : List Value} (hav : ∀ v ∈ av, fs_ok v = true) : (lg_sl (av.map (fs_cv g))).length = av.length := by
  induction av with
  | nil => rfl
  | cons v av ih =>
    have hc : ¬ (fs_cv g v).category = 2 := by have := hav v List.mem_cons_self; cases v <;> simp_all [fs_ok, fs_cv, Value.category]
    have ih := ih (fun w hw => hav w (List.mem_cons_of_mem _ hw))
    simp only [lg_sl, List.map_cons, List.flatMap_cons, hc, if_false, List.length_append, List.length_cons, List.length_nil] at ih ⊢
    omega
/-- the contract out of its body -/
theorem fs_enter {av : List Value} {M : fs_M} (hp : plainName (fs_iy μ).cls = true) (hav : ∀ v ∈ av, fs_ok v = true) (hlen : av.length ≤ fs_iL μ) (hdp : fs_dp μ ≤ d)
    (h : fs_R g μ d (0, 0) 0 (av ++ List.replicate (fs_iL μ - av.length) .null) [] M Q) : fs_T g μ d av M Q := by
  refine Met.ofW (cc := fs_ic μ) (maxL := fs_iL μ) (ret := fs_ir μ) hp rfl ?_
  intro p e s m args below meth c s₁ B hml hv
  obtain ⟨rfl, hB, hK, hW⟩ := hv
  have hts := atoms_spec (ws := Cond.code (fs_iy μ) (fs_ic μ) (fs_iL μ) (fs_ir μ) :: fs_tb) B.pre
  have hl := lv_entry (av.map (fs_cv g)) (n := fs_iL μ) (by rw [fs_sl_len hav]; exact hlen)
  rw [lg_entry_eq]
  generalize (lg_sl (av.map (fs_cv g)) ++ List.replicate (fs_iL μ - (lg_sl (av.map (fs_cv g))).length) Slot.unset).toArray = lsA at hl ⊢
  refine h p e (fs_rm μ d) s m _ below meth c s.heap [] lsA ⟨B.exec, B.bytes, B.returns, B.notSynchronized, hml, findClass_of_methodNamed B.named, fun w hw => hts w (List.mem_cons_of_mem _ hw), (name_of_methodNamed B.named B.method).1, rfl, hK, hB, hdp⟩ va_S.rf hW ⟨?_, by simp; omega⟩
  have e := fs_lv_args (g := g) av 0 (fs_iL μ - av.length) hav
  simp only [Nat.zero_add] at e
  unfold fs_lv
  rw [e]
  exact hl
theorem fs_enterC {av : List Value} {M : fs_M} (hp : plainName (fs_iy μ).cls = true) (hav : ∀ v ∈ av, fs_ok v = true) (hlen : av.length ≤ fs_iL μ)
    (h : ∀ d, fs_R g μ d (0, 0) 0 (av ++ List.replicate (fs_iL μ - av.length) .null) [] M Q) : fs_Ct g μ av M Q := fun d hd => fs_enter hp hav hlen hd (h d)
theorem fs_good {w : Cond} (h : w ∈ fs_tb) : w ∈ fs_tb ∧ ((w.onTables && w.keeps) = true ∨ ∃ ty, w = .arrayClass ty) := ⟨h, good_of_word (List.mem_filter.mp h).2⟩
theorem fs_goodC {y : MethodName} {cc : ByteArray} {n : Nat} {r : Option FieldType} (h : Cond.code y cc n r ∈ fs_tb) : GoodIn fs_tb (.code y cc n r :: fs_tb) := fun w hw => (List.mem_cons.mp hw).elim (fun e => e ▸ fs_good h) fs_good
/-- what a callee needs of the tables -/
def fs_mD (y : MethodName) (n : Nat) : Prop := y.cls ≠ "java/lang/invoke/MethodHandle" ∧ y.cls ≠ "java/lang/invoke/VarHandle" ∧ (parseMethodDescriptor y.desc).map (fun d => d.parameters.length) = some n
def fs_mB (μ : fs_I) (n : Nat) : Prop := Cond.code (fs_iy μ) (fs_ic μ) (fs_iL μ) (fs_ir μ) ∈ fs_tb ∧ Cond.initialized (fs_iy μ).cls ∈ fs_tb ∧ fs_mD (fs_iy μ) n ∧ fs_iL μ ≤ 45
def fs_mS (μ : fs_I) (n : Nat) : Prop := fs_mB μ n ∧ Cond.static (fs_iy μ) ∈ fs_tb
def fs_mV (μ : fs_I) (ci n : Nat) : Prop := fs_mB μ n ∧ Cond.instanceMethod (fs_iy μ) ∈ fs_tb ∧ Cond.selects (fs_iy μ).cls (fs_iy μ) (fs_iy μ) ∈ fs_tb ∧ ∃ (T : u_T) (N : Nat), vwCl[ci]? = some ((fs_iy μ).cls, T, N)
def fs_mI (μ : fs_I) (n : Nat) : Prop := fs_mB μ n ∧ Cond.instanceMethod (fs_iy μ) ∈ fs_tb ∧ (fs_iy μ).name = "<init>" ∧ fs_ir μ = none
def fs_Pc (g : fs_G) (M : fs_M) (av : List Value) : Array Value → State → Prop := va_Pc (av.map (fs_cv g)) (fun U => fs_B g ≤ U.heap.size ∧ fs_K g U ∧ fs_W g M U.heap)
theorem fs_blind {M : fs_M} {av : List Value} : FrameBlind (fs_Pc g M av) := fun a U f mk ⟨e, h1, h2, h3⟩ => ⟨e, h1, h2.calling f mk a, h3⟩
theorem fs_pre {M : fs_M} {av : List Value} {s : State} {H : Heap} {locs : List Loc} (hS : va_S (fs_A g) s.heap H locs) (hK : fs_K g s) (hB : fs_B g ≤ s.heap.size) (hW : fs_W g M H) : ∀ U : State, U.heap = H → s.WarmedH U.vm → fs_Pc g M av (av.map (fs_cv g)).toArray U := by
  intro U hU hw
  refine ⟨rfl, ?_, fs_K.warm hw (fun a h1 h2 => by rw [hU]; exact hS.2.1 a h1 h2) hK, by rw [hU]; exact hW⟩
  rw [hU]
  exact Nat.le_trans hB hS.1
theorem fs_cats {g : fs_G} {rest : List Value} (h : rest.length ≤ 4) : ((rest.map (fs_cv g)).map fun v => v.category).sum ≤ 8 := by
  have key : ∀ l : List Value, ((l.map (fs_cv g)).map fun v => v.category).sum ≤ 2 * l.length := by
    intro l
    induction l with
    | nil => simp
    | cons v l ih =>
      have hc : (fs_cv g v).category ≤ 2 := by rcases lv_cat (fs_cv g v) with h | h <;> omega
      simp only [List.map_cons, List.sum_cons, List.length_cons]
      omega
  have := key rest
  omega
/-- behind a call -/
theorem fs_back {p : Program} {e : Env} {R : Room} {s : State} {m : MethodId} {args : Array Value} {below : List Frame} {meth : Method} {c : Code} {H : Heap} {locs : List Loc} {cells slots mc ms pc : Nat} {Qw : State → Prop} {lsA : Array Slot} {st0 rest : List Value} {Q' : Option Value → fs_M → Prop} {a : Array Value}
    (hr : va_Run p g.1 e R s m args below meth c H locs cells slots mc ms (F0 m pc lsA st0) rest (fs_Q g Q' a) (fs_A g)) (hS : va_S (fs_A g) s.heap H locs)
    (kk : ∀ (r : Option Value) (M' : fs_M) (H1 : Heap) (locs1 : List Loc), Q' r M' → fs_W g M' H1 → va_S (fs_A g) s.heap H1 locs1 → W p g.1 e R s m args below meth c H1 locs1 (cells + mc) (slots + ms) Qw (F0 m (pc + 3) lsA ((r.map (fs_cv g)).toList ++ rest))) :
    W p g.1 e R s m args below meth c H locs cells slots Qw (F0 m pc lsA st0) := by
  intro T hT X
  obtain ⟨v, st₀, t, T', L, h0, X', hL, e1, e2, ⟨⟨r, M', hv, hq, hW⟩, hz, hk⟩, st⟩ := hr T hT X
  cases hv
  rw [h0] at hz hk
  obtain ⟨t2, a1, b1⟩ := kk r M' T'.heap (locs ++ L) hq (by rw [e1]; exact hW) ⟨Nat.le_trans hS.1 (by rw [e1]; exact hz), fun q h1 h2 => by rw [e1, hk q (Nat.lt_of_lt_of_le h1 hS.1) h2]; exact hS.2.1 q h1 h2, fun q hq => by
      rcases List.mem_append.mp hq with h | h
      · exact hS.2.2 q h
      · exact hL q h⟩ T' rfl X'
  exact ⟨t2, st t2 a1, b1⟩
theorem fs_stk {r : Option Value} {rest : List Value} : (r.map (fs_cv g)).toList ++ rest.map (fs_cv g) = (r.toList ++ rest).map (fs_cv g) := by
  cases r <;> simp
theorem fs_goS {d' n index : Nat} {As rest ls : List Value} {M : fs_M} {Q' : Option Value → fs_M → Prop} (hm : fs_mS μ' n) (hl : Cond.methodLink (fs_iy μ).cls index (fs_iy μ') ∈ fs_tb) (hdd : d' + 1 ≤ d) (hn : As.length = n) (hu : u.1 + fs_mc μ' ≤ fs_mc μ ∧ u.2 + fs_ms μ' ≤ fs_ms μ) (hd : decode (fs_ic μ) pc = .ok (.invokestatic index, 3))
    (hM : fs_T g μ' d' As M Q') (hr : rest.length ≤ 4) (h : ∀ r M', Q' r M' → fs_R g μ d (u.1 + fs_mc μ', u.2 + fs_ms μ') (pc + 3) ls (r.toList ++ rest) M' Q) : fs_R g μ d u pc ls (As.reverse ++ rest) M Q := by
  intro p e R s m args below meth c H locs lsA C0 hS hW hL
  obtain ⟨⟨hc, hi, hD, hiL⟩, hst⟩ := hm
  have hts := C0.2.2.2.2.2.2.1
  have hRe := C0.2.2.2.2.2.2.2.2.1
  refine fs_back (va_runS (As := As.map (fs_cv g)) (rest := rest.map (fs_cv g)) ⟨C0.1, C0.2.1, C0.2.2.2.2.1, C0.2.2.2.2.2.1, hts⟩ hM (va_cwS n hts (fun w hw => ?_) rfl rfl rfl hD ⟨by rw [hRe]; exact hdd, by rw [hRe]; show 8 + (fs_iL μ' + 11) + 64 * d' ≤ 64 * d; omega⟩) ⟨fs_blind, fs_pre hS C0.2.2.2.2.2.2.2.2.2.1 C0.2.2.2.2.2.2.2.2.2.2.1 hW⟩ rfl (by simpa using hn) (hL.1.1) (by simp) (by simpa using fs_cats hr) hd (by rw [hRe]; exact hu)) hS (fun r M' H1 locs1 hq hW1 hS1 => ?_)
  · simp only [va_wsS, List.mem_append, List.mem_cons, List.not_mem_nil, or_false] at hw
    rcases hw with (rfl | rfl | rfl) | hw
    · exact fs_good hl
    · exact fs_good hst
    · exact fs_good hi
    · exact fs_goodC hc w (List.mem_cons.mpr hw)
  · rw [fs_stk]
    exact h r M' hq p e R s m args below meth c H1 locs1 lsA C0 hS1 hW1 hL
end FO4
