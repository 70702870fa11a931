/-! ===== helpers with a catch ===== -/
abbrev fh_H : Type := List (Nat × Nat × Nat × Nat)
def fh_T (g : fs_G) (μ : fs_I) (hh : fh_H) (d : Nat) (av : List Value) (M : fs_M) (Q : Option Value → fs_M → Prop) : Prop :=
  Met g.1 (fs_iy μ) (.codeWith (fs_iy μ) (fs_ic μ) (fs_iL μ) (fs_ir μ) hh :: fs_tb) (fs_rm μ d) (fs_Pc g M av) (fs_Q g Q) (fs_mc μ) (fs_ms μ) (fs_A g)
def fh_R (g : fs_G) (μ : fs_I) (hh : fh_H) (d : Nat) (u : Nat × Nat) (pc : Nat) (ls st : List Value) (M : fs_M) (Q : Option Value → fs_M → Prop) : Prop :=
  ∀ (p : Program) (e : Env) (R : Room) (s : State) (m : MethodId) (args : Array Value) (below : List Frame) (meth : Method) (c : Code) (H : Heap) (locs : List Loc) (lsA : Array Slot), fs_C g μ d p R s m args meth c → c.exceptionTable.toList = tableOf hh → va_S (fs_A g) s.heap H locs → fs_W g M H → fs_L g lsA ls (fs_iL μ) →
    W p g.1 e R s m args below meth c H locs u.1 u.2 (MQ below (fs_Q g Q) args s (fs_mc μ) (fs_ms μ) (fs_A g)) (F0 m pc lsA (st.map (fs_cv g)))
def fh_Ct (g : fs_G) (μ : fs_I) (hh : fh_H) (av : List Value) (M : fs_M) (Q : Option Value → fs_M → Prop) : Prop := ∀ d, fs_dp μ ≤ d → fh_T g μ hh d av M Q
section FH1
variable {g : fs_G} {μ μ' : fs_I} {hh : fh_H} {d : Nat} {u : Nat × Nat} {pc : Nat} {ls st : List Value} {M M' : fs_M} {Q : Option Value → fs_M → Prop}
theorem fh_of (h : fs_R g μ d u pc ls st M Q) : fh_R g μ hh d u pc ls st M Q := fun p e R s m args below meth c H locs lsA C _ hS hW hL => h p e R s m args below meth c H locs lsA C hS hW hL
theorem fh_enter {av : List Value} (hp : plainName (fs_iy μ).cls = true) (hav : ∀ v ∈ av, fs_ok v = true) (hlen : av.length ≤ fs_iL μ) (hdp : fs_dp μ ≤ d)
    (h : fh_R g μ hh d (0, 0) 0 (av ++ List.replicate (fs_iL μ - av.length) .null) [] M Q) : fh_T g μ hh d av M Q := by
  have key : vx_Met g.1 (fs_iy μ) (.codeWith (fs_iy μ) (fs_ic μ) (fs_iL μ) (fs_ir μ) hh :: fs_tb) (fs_rm μ d) (fs_Pc g M av) (fs_Q g Q) (fun _ _ _ => False) (fs_mc μ) (fs_ms μ) (fs_A g) := by
    refine vx_ofWH (cc := fs_ic μ) (maxL := fs_iL μ) (ret := fs_ir μ) (hh := hh) hp rfl ?_
    intro p e s m args below meth c s₁ B hml hv
    obtain ⟨rfl, hB, hK, hW⟩ := hv
    have hts := atoms_spec (ws := Cond.codeWith (fs_iy μ) (fs_ic μ) (fs_iL μ) (fs_ir μ) hh :: fs_tb) B.pre
    have htab := vx_table (x := fs_iy μ) B (hts _ List.mem_cons_self)
    have hl := lv_entry (av.map (fs_cv g)) (n := fs_iL μ) (by rw [fs_sl_len hav]; exact hlen)
    rw [lg_entry_eq]
    generalize (lg_sl (av.map (fs_cv g)) ++ List.replicate (fs_iL μ - (lg_sl (av.map (fs_cv g))).length) Slot.unset).toArray = lsA at hl ⊢
    refine vx_ret (h p e (fs_rm μ d) s m _ below meth c s.heap [] lsA ⟨B.exec, B.bytes, B.returns, B.notSynchronized, hml, findClass_of_methodNamed B.named, fun w hw => hts w (List.mem_cons_of_mem _ hw), (name_of_methodNamed B.named B.method).1, rfl, hK, hB, hdp⟩ htab va_S.rf hW ⟨?_, by simp; omega⟩)
    have e := fs_lv_args (g := g) av 0 (fs_iL μ - av.length) hav
    simp only [Nat.zero_add] at e
    unfold fs_lv
    rw [e]
    exact hl
  unfold vx_Met at key
  unfold fh_T Met
  refine MetFree.mono key (fun _ _ x => x) (fun _ _ _ _ _ x => x) (fun _ _ _ _ _ hq => ?_)
  rcases hq with hq | ⟨q, -, E, ce, L, hx, -⟩
  · exact hq
  · exact hx.elim
theorem fh_iload_n {k : Fin 4} {i : Nat} {x : Int32} (hd : decode (fs_ic μ) pc = .ok (.iload_n k, 1)) (hi : (k : Nat) = i) (hx : ls[i]? = some (.int x)) (h : fh_R g μ hh d u (pc + 1) ls (.int x :: st) M Q) : fh_R g μ hh d u pc ls st M Q := by
  intro p e R s m args below meth c H locs lsA C hT hS hW hL
  exact lv_iload_n C.1 C.2.1 hd hi (fs_lv_at hL hx rfl) (h p e R s m args below meth c H locs lsA C hT hS hW hL)
theorem fh_aload_n {k : Fin 4} {i : Nat} {x : Nat} (hd : decode (fs_ic μ) pc = .ok (.aload_n k, 1)) (hi : (k : Nat) = i) (hx : ls[i]? = some (.ref x)) (h : fh_R g μ hh d u (pc + 1) ls (.ref x :: st) M Q) : fh_R g μ hh d u pc ls st M Q := by
  intro p e R s m args below meth c H locs lsA C hT hS hW hL
  exact lv_aload_n C.1 C.2.1 hd hi (fs_lv_at hL hx rfl) (h p e R s m args below meth c H locs lsA C hT hS hW hL)
theorem fh_iconst {n : Int} {v : Int32} (hd : decode (fs_ic μ) pc = .ok (.iconst n, 1)) (hv : Int32.ofInt n = v) (h : fh_R g μ hh d u (pc + 1) ls (.int v :: st) M Q) : fh_R g μ hh d u pc ls st M Q := by
  intro p e R s m args below meth c H locs lsA C hT hS hW hL
  exact lv_iconst C.1 C.2.1 hd hv (h p e R s m args below meth c H locs lsA C hT hS hW hL)
/-- a call that throws, and is caught: the answer is 1 -/
theorem fh_bad {d' n index ci k a b hp ct n1 : Nat} {As rest : List Value} {rs : List (Option (Option Nat))} (hm : fs_mV μ' ci n) (hl : Cond.methodLink (fs_iy μ).cls index (fs_iy μ') ∈ fs_tb) (hdd : d' + 1 ≤ d) (hn : As.length = n) (hu : u.1 + fs_mc μ' ≤ fs_mc μ ∧ u.2 + fs_ms μ' ≤ fs_ms μ) (hd : decode (fs_ic μ) pc = .ok (.invokevirtual index, 3))
    (hk : M.1.1[k]? = some (.inr (ci, rs))) (hM : fx_T g μ' d' (.ref k :: As) M M') (hr : rest.length ≤ 4) (hh1 : hh = [(a, b, hp, ct)]) (hcov : covers ⟨a, b, hp, ct⟩ pc = true) (hct : ct ≠ 0) (hcl : Cond.classLink (fs_iy μ).cls ct fs_IO ∈ fs_tb) (hir : fs_ir μ = some .int)
    (hst : (∃ j : Fin 4, decode (fs_ic μ) hp = .ok (.astore_n j, 1) ∧ (j : Nat) < fs_iL μ ∧ n1 = hp + 1) ∨ ∃ j, decode (fs_ic μ) hp = .ok (.astore j, 2) ∧ j < fs_iL μ ∧ n1 = hp + 2) (d1 : decode (fs_ic μ) n1 = .ok (.iconst 1, 1)) (d2 : decode (fs_ic μ) (n1 + 1) = .ok (.ireturn, 1)) (hQ : Q (some (.int 1)) M') : fh_R g μ hh d u pc ls (As.reverse ++ .ref k :: rest) M Q := by
  intro p e R s m args below meth c H locs lsA C0 hT hS hW hL
  obtain ⟨⟨hc, hi, hD, hiL⟩, hin, hse, T0, N0, hcl0⟩ := hm
  have hts := C0.2.2.2.2.2.2.1
  have hRe := C0.2.2.2.2.2.2.2.2.1
  have hK := C0.2.2.2.2.2.2.2.2.2.1
  have hrun := vx_runV (R := R) (e := e) (below := below) (meth := meth) (locs := locs) (cells := u.1) (slots := u.2) (H := H) (C := (fs_iy μ').cls) (b := fs_ad g k) (As := As.map (fs_cv g)) (rest := rest.map (fs_cv g)) (g := F0 m pc lsA ((As.reverse ++ .ref k :: rest).map (fs_cv g))) ⟨C0.1, C0.2.1, C0.2.2.2.2.1, C0.2.2.2.2.2.1, hts⟩ hM (cwV n hts (fun w hw => by
    simp only [wsV, List.mem_append, List.mem_cons, List.not_mem_nil, or_false] at hw
    rcases hw with (rfl | rfl | rfl | rfl) | hw
    · exact fs_good hl
    · exact fs_good hin
    · exact fs_good hse
    · exact fs_good hi
    · exact fs_goodC hc w (List.mem_cons.mpr hw)) rfl rfl rfl ⟨rfl, hD⟩ ⟨by rw [hRe]; exact hdd, by rw [hRe]; show 8 + (fs_iL μ' + 11) + 64 * d' ≤ 64 * d; omega⟩) ⟨fs_blind (M := M), by rw [fs_lt hW hk]; exact va_recv hK.1 hW.1 hcl0 (fs_wl_get hk), fs_pre (av := .ref k :: As) hS hK C0.2.2.2.2.2.2.2.2.2.2.1 hW⟩ rfl (by simpa using hn) (hL.1.1) (by simp [fs_cv]) (by simpa using fs_cats hr) hd (by rw [hRe]; exact hu)
  intro T hTh X
  rcases hrun T hTh X with ⟨v, st₀, t, T', L, h0, X', hL', e1, e2, hq, st⟩ | ⟨q, st₀, t, T', L, E, ce, h0, X', hL', e1, e2, ⟨hE, hW', hz, hk'⟩, hce, hcv, hcle, st⟩
  · exact hq.elim
  · rw [h0] at hz hk'
    subst hE
    have hS1 : va_S (fs_A g) s.heap T'.heap (locs ++ L) := ⟨by rw [e1]; exact Nat.le_trans hS.1 hz, fun a h1 h2 => by rw [e1, hk' a (Nat.lt_of_lt_of_le h1 hS.1) h2]; exact hS.2.1 a h1 h2, fun z hz' => by
      rcases List.mem_append.mp hz' with h | h
      · exact hS.2.2 z h
      · exact hL' z h⟩
    have tail : ∀ ls' : Array Slot, W p g.1 e R s m args below meth c T'.heap (locs ++ L) (u.1 + fs_mc μ') (u.2 + fs_ms μ') (MQ below (fs_Q g Q) args s (fs_mc μ) (fs_ms μ) (fs_A g)) (F0 m n1 ls' []) := by
      intro ls'
      refine lv_iconst (v := 1) C0.1 C0.2.1 d1 rfl ?_
      refine W.widen hu.1 hu.2 ?_
      exact W.iret C0.1 C0.2.1 (C0.2.2.1.trans hir) (fun t' ht' _ => ⟨⟨some (.int 1), M', rfl, hQ, by rw [ht', e1]; exact hW'⟩, hS1.F ht'⟩) hS1.2.2 d2 C0.2.2.2.1
    have kk : W p g.1 e R s m args below meth c T'.heap (locs ++ L) (u.1 + fs_mc μ') (u.2 + fs_ms μ') (MQ below (fs_Q g Q) args s (fs_mc μ) (fs_ms μ) (fs_A g)) (F0 m hp lsA [.ref q]) := by
      rcases hst with ⟨j, g1, g2, rfl⟩ | ⟨j, g1, g2, rfl⟩
      · exact lv_astore_n C0.1 C0.2.1 g1 rfl hL.1 g2 rfl (fun ls' _ => tail ls')
      · exact lv_astore C0.1 C0.2.1 g1 hL.1 g2 rfl (fun ls' _ => tail ls')
    obtain ⟨t2, a1, b1⟩ := vx_catch (own := (fs_iy μ).cls) (name := fs_IO) (E := fs_IO) (pc := pc) (ls := lsA) (rest := rest.map (fs_cv g)) C0.2.2.2.2.2.1 [] ⟨a, b, hp, ct⟩ [] (by rw [hT, hh1]; rfl) (fun z hz' => nomatch hz') hcov hct (hts _ hcl) (va_Nw.use rfl hK.2.1.2.2.2.1) (by rw [e1]; exact hce) hcv hcle kk T' rfl X'
    exact ⟨t2, st.trans a1, b1⟩
end FH1
