/-! ===== memory ===== -/
/-- a class's rows: its name, fields, types, and that the words have them -/
def fs_cl (ci : Nat) (C : String) (T : u_T) (N : Nat) (ty0 : Nat → FieldType) : Prop := vwCl[ci]? = some (C, T, N) ∧ (∀ w ∈ u_ws C T N, w ∈ fs_tb) ∧ (∀ k, k < N → parseFieldDescriptor (T k).2.2.1 = some (ty0 k)) ∧ (∀ a, a < N → ∀ b, b < N → a ≠ b → (T a).2.1 ≠ (T b).2.1)
theorem fs_fl_get {g : fs_G} {σ : Nat → Nat → Int32} {k j : Nat} {rs : List (Option (Option Nat))} {r : Option (Option Nat)} (h : rs[j]? = some r) : (fs_fl g σ k rs)[j]? = some (fs_sl g σ k j r) := by
  simp [fs_fl, List.getElem?_mapIdx, h]
theorem fs_lt {g : fs_G} {M : fs_M} {H : Heap} {k : Nat} {sh : fs_Sh} (hW : fs_W g M H) (h : M.1.1[k]? = some sh) : fs_ad g k = fs_B g + k := fs_ad_lt (Nat.lt_of_lt_of_le (List.getElem?_eq_some_iff.mp h).1 hW.2.1)
section FO3
variable {g : fs_G} {μ : fs_I} {d : Nat} {u : Nat × Nat} {Q : Option Value → fs_M → Prop} {pc : Nat} {K K1 K2 : fs_P}
theorem fo_getf {ci j N index : Nat} {C ref : String} {T : u_T} {ty0 : Nat → FieldType} (hC : fs_cl ci C T N ty0) (hj : j < N) (hr : ref = (T j).1) (hl : Cond.fieldLink (fs_iy μ).cls index ref (T j).2.1 (T j).2.2.1 ∈ fs_tb) (hd : decode (fs_ic μ) pc = .ok (.getfield index, 3)) (h : fs_E g μ d u Q (pc + 3) K) : fs_E g μ d u Q pc (fi_getf ci j K) := by
  subst hr
  intro ls st M hk p e R s m args below meth c H locs lsA C0 hS hW hL
  unfold fi_getf at hk
  split at hk
  · rename_i k r
    split at hk
    · rename_i c0 rs hM
      obtain ⟨rfl, hk⟩ := hk
      have hg := fs_wl_get (g := g) hM
      have key : ∀ v : Value, (fs_fl g M.2.1 k rs)[j]? = some v → W p g.1 e R s m args below meth c H locs u.1 u.2 (MQ below (fs_Q g Q) args s (fs_mc μ) (fs_ms μ) (fs_A g)) (F0 m (pc + 3) lsA (v :: r.map (fs_cv g))) → W p g.1 e R s m args below meth c H locs u.1 u.2 (MQ below (fs_Q g Q) args s (fs_mc μ) (fs_ms μ) (fs_A g)) (F0 m pc lsA ((Value.ref k :: r).map (fs_cv g))) := by
        intro v hv kk
        simp only [List.map_cons, fs_cv, fs_lt hW hM]
        exact va_get C0.1 C0.2.1 C0.2.2.2.2.2.2.1 hC.2.1 C0.2.2.2.2.2.1 C0.2.2.2.2.2.2.2.2.2.1.1 hW.1 k hg hC.1 j hj (C0.2.2.2.2.2.2.1 _ hl) (fun _ x => x) hv hd kk
      split at hk
      · rename_i hj2
        exact key _ (fs_fl_get hj2) (h ls _ M hk p e R s m args below meth c H locs lsA C0 hS hW hL)
      · rename_i q hj2
        exact key _ (fs_fl_get hj2) (h ls _ M hk p e R s m args below meth c H locs lsA C0 hS hW hL)
      · exact hk.elim
    · exact hk.elim
  · exact hk.elim
theorem fs_fit {z : Bool} {ty : FieldType} {x : Int32} (hty : ty = if z then .boolean else .int) (hx : z = true → x = 0 ∨ x = 1) : narrow ty (.int x) = .int x ∧ fits ty (.int x) = true := by
  subst hty
  cases z
  · exact ⟨rfl, rfl⟩
  · rcases hx rfl with rfl | rfl <;> exact ⟨by decide, by decide⟩
theorem fs_wl_putf {g : fs_G} {M : fs_M} {k j c0 : Nat} {rs : List (Option (Option Nat))} {x : Int32} (hM : M.1.1[k]? = some (.inr (c0, rs))) (hj : rs[j]? = some none) :
    (fs_wl g M).set k (fs_B g + k, .inr (c0, (fs_fl g M.2.1 k rs).set j (.int x))) = fs_wl g (M.1, fs_u M.2.1 k j x, M.2.2) := by
  refine fs_wl_set rfl (fun sh hs => ?_) (fun _ _ => rfl) (fun i hi => fs_u_ne hi) (fun _ _ => rfl)
  cases hM.symm.trans hs
  simp only [fs_en]
  congr 2
  apply List.ext_getElem?
  intro i
  rw [List.getElem?_set]
  simp only [fs_fl, List.getElem?_mapIdx, List.length_mapIdx]
  by_cases hi : j = i
  · subst hi
    rw [if_pos rfl, if_pos (List.getElem?_eq_some_iff.mp hj).1, hj]
    simp [fs_sl, fs_u]
  · rw [if_neg hi]
    cases hq : rs[i]? with
    | none => rfl
    | some r =>
      have hi' : ¬ i = j := fun q => hi q.symm
      rcases r with _ | _ | q <;> simp [fs_sl, fs_u, hi']
/-- a store into a field, of any value: the world, the sizes -/
theorem fs_put {p : Program} {l : Launch} {e : Env} {R : Room} {s : State} {m : MethodId} {args : Array Value} {below : List Frame} {meth : Method} {c : Code} {H : Heap} {locs : List Loc} {cells slots : Nat} {Qw : State → Prop} {cc : ByteArray} {pc : Nat} {ls : Array Slot} {rest : List Value} {D : va_G} {cl : List vw_C} {A : Nat → Prop} {a : Nat} {tys : List (ClassId × FieldType)} {ws : va_W} {H0 : Heap}
    (hexec : p.tables.exec = Jvm.exec) (hb : c.code = cc) {own C : String} {T : u_T} {N ci index : Nat} {Ts : List Cond} (hts : ∀ w ∈ Ts, w.before args s = true) (hin : ∀ w ∈ u_ws C T N, w ∈ Ts) (ty0 : Nat → FieldType) (hty : ∀ k, k < N → parseFieldDescriptor (T k).2.2.1 = some (ty0 k)) (hnm : ∀ a, a < N → ∀ b, b < N → a ≠ b → (T a).2.1 ≠ (T b).2.1) (hown : s.vm.findClass own = some m.cls) (hK : va_K D cl tys s) (hP : va_P D cl ws H) (hD : va_D A ws) (hS0 : va_S A H0 H locs) (q0 : Nat) {fs : List Value} (he : ws[q0]? = some (a, .inr (ci, fs))) (hc : cl[ci]? = some (C, T, N)) (k : Nat) (hk : k < N) (hlink : (Cond.fieldLink own index (T k).1 (T k).2.1 (T k).2.2.1).before args s = true)
    (hfin : (T k).2.2.2 = false ∨ ((T k).2.2.2 = true ∧ meth.name = "<init>" ∧ (T k).1 = own)) {v : Value} (hn : narrow (ty0 k) v = v) (hfit : fits (ty0 k) v = true) (hl : k < fs.length) (hdg : decode cc pc = .ok (.putfield index, 3))
    (kk : ∀ (H1 : Heap) (locs1 : List Loc), H1.size = H.size → va_P D cl (ws.set q0 (a, .inr (ci, fs.set k v))) H1 → va_S A H0 H1 locs1 → W p l e R s m args below meth c H1 locs1 cells slots Qw (F0 m (pc + 3) ls rest)) : W p l e R s m args below meth c H locs cells slots Qw (F0 m pc ls (v :: .ref a :: rest)) := by
  have hap := va_apart (own := own) hts hin ty0 hty hnm hK hc
  obtain ⟨r, h1, cell, q1, q2, q3, q4⟩ := hP q0 _ he
  have hr : r = (C, T, N) := Option.some.inj (h1.symm.trans hc)
  subst hr
  obtain ⟨hS, hfc, kC, hkC, hkind⟩ := hK.1 ci _ hc
  obtain ⟨cf, kf, fi, f, hi, hsl⟩ := hS k hk
  have hd := hty k hk
  have hlay := hts _ (hin _ (u_in_lay hk))
  unfold u_lay at hlay
  have hst := (u_facts hfc hkC (u_lays hts hin hk) hi).1
  rcases hfin with hfin | ⟨hfin, hin2, hdecl⟩
  · rw [if_neg (by rw [hfin]; decide)] at hlay
    have h6 := u_store hfc hkC hkind hlay hi hd hn hfit
    refine W.putK hexec hb (f := f) ⟨hown, hlink, ⟨_, _, _, hi⟩, hst⟩ (by rw [q2]; exact h6) q1 q3 (by rw [hsl]; exact k2_hasslot (q4 k hk)) rfl rfl hdg fun H' e1 e2 e3 => ?_
    rw [hsl] at e1 ⊢
    exact kk H' _ e2 (hP.set hD he ⟨_, hc, t_OB.to (V := updV (vp_V fs) k v) ⟨_, e1, q2, q3, t_set q4 hap hk v⟩ (fun j _ => vp_updV_set hl v j)⟩ e3) (hS0.put e2 e3 (hD.2 q0 _ he))
  · rw [if_pos hfin] at hlay
    have hcf : m.cls = cf := by
      obtain ⟨_, _, c', _, _, _, -, -, hf', -, -, -, hown2, -⟩ := Cond.laysFinal_spec hlay
      have e1 : c' = cf := by have := hi.symm.trans hf'; simp at this; exact this.1.symm
      rw [hdecl] at hown2
      rw [← e1]; exact Option.some.inj (hown.symm.trans hown2)
    have h6 := u_fits hfc hkC hkind (Or.inr hlay) hi hd hn hfit
    refine W.putFinK hexec hb hown hlink hi hst hcf hin2 (by rw [q2]; exact h6) q1 q3 (by rw [hsl]; exact k2_hasslot (q4 k hk)) rfl rfl hdg fun H' e1 e2 e3 => ?_
    rw [hsl] at e1 ⊢
    exact kk H' _ e2 (hP.set hD he ⟨_, hc, t_OB.to (V := updV (vp_V fs) k v) ⟨_, e1, q2, q3, t_set q4 hap hk v⟩ (fun j _ => vp_updV_set hl v j)⟩ e3) (hS0.put e2 e3 (hD.2 q0 _ he))
theorem fo_putf {z : Bool} {ci j N index : Nat} {C ref : String} {T : u_T} {ty0 : Nat → FieldType} (hC : fs_cl ci C T N ty0) (hj : j < N) (hr : ref = (T j).1) (hfin : (T j).2.2.2 = false) (hty : ty0 j = if z then .boolean else .int) (hl : Cond.fieldLink (fs_iy μ).cls index ref (T j).2.1 (T j).2.2.1 ∈ fs_tb) (hd : decode (fs_ic μ) pc = .ok (.putfield index, 3)) (h : fs_E g μ d u Q (pc + 3) K) : fs_E g μ d u Q pc (fi_putf z ci j K) := by
  subst hr
  intro ls st M hk p e R s m args below meth c H locs lsA C0 hS hW hL
  unfold fi_putf at hk
  split at hk
  · rename_i x k r
    split at hk
    · rename_i c0 rs hM
      obtain ⟨rfl, hj2, hz, hk⟩ := hk
      have hg := fs_wl_get (g := g) hM
      simp only [List.map_cons, fs_cv, fs_lt hW hM]
      have hf := fs_fit hty hz
      refine fs_put C0.1 C0.2.1 C0.2.2.2.2.2.2.1 hC.2.1 ty0 hC.2.2.1 hC.2.2.2 C0.2.2.2.2.2.1 C0.2.2.2.2.2.2.2.2.2.1.1 hW.1 (fs_wl_D g M) hS k hg hC.1 j hj (C0.2.2.2.2.2.2.1 _ hl) (Or.inl hfin) hf.1 hf.2 (by simp [fs_fl]; exact (List.getElem?_eq_some_iff.mp hj2).1) hd (fun H1 locs1 hz1 hP1 hS1 => ?_)
      rw [fs_wl_putf hM hj2] at hP1
      exact h ls r _ hk p e R s m args below meth c H1 locs1 lsA C0 hS1 ⟨hP1, hW.2.1, fun q => by rw [hz1]; exact hW.2.2 q⟩ hL
    · exact hk.elim
  · exact hk.elim
theorem fs_wl_putr {g : fs_G} {M : fs_M} {k j c0 : Nat} {rs : List (Option (Option Nat))} {x : Nat} (hM : M.1.1[k]? = some (.inr (c0, rs))) (hj : j < rs.length) :
    (fs_wl g M).set k (fs_B g + k, .inr (c0, (fs_fl g M.2.1 k rs).set j (.ref (fs_ad g x)))) = fs_wl g ((M.1.1.set k (.inr (c0, rs.set j (some (some x)))), M.1.2), M.2.1, M.2.2) := by
  refine fs_wl_set (by simp) (fun sh hs => ?_) (fun i hi => by simp [List.getElem?_set_ne (Ne.symm hi)]) (fun i hi => rfl) (fun _ _ => rfl)
  simp only [List.getElem?_set_self (List.getElem?_eq_some_iff.mp hM).1, Option.some.injEq] at hs
  subst hs
  simp only [fs_en]
  congr 2
  apply List.ext_getElem?
  intro i
  rw [List.getElem?_set]
  simp only [fs_fl, List.getElem?_mapIdx, List.length_mapIdx, List.getElem?_set]
  by_cases hi : j = i
  · subst hi
    simp [hj, fs_sl]
  · simp [hi]
/-- a cell into a field, in its own constructor or not final -/
theorem fo_putr {ci j N index : Nat} {C ref : String} {T : u_T} {ty0 : Nat → FieldType} (hC : fs_cl ci C T N ty0) (hj : j < N) (hr : ref = (T j).1) (hfin : (T j).2.2.2 = false ∨ ((T j).2.2.2 = true ∧ (fs_iy μ).name = "<init>" ∧ (T j).1 = (fs_iy μ).cls)) (hty : (∃ n, ty0 j = .object n) ∨ ∃ t, ty0 j = .array t) (hl : Cond.fieldLink (fs_iy μ).cls index ref (T j).2.1 (T j).2.2.1 ∈ fs_tb) (hd : decode (fs_ic μ) pc = .ok (.putfield index, 3)) (h : fs_E g μ d u Q (pc + 3) K) : fs_E g μ d u Q pc (fi_putr ci j K) := by
  subst hr
  intro ls st M hk p e R s m args below meth c H locs lsA C0 hS hW hL
  unfold fi_putr at hk
  split at hk
  · rename_i x k r
    split at hk
    · rename_i c0 rs hM
      obtain ⟨rfl, hj2, hk⟩ := hk
      have hg := fs_wl_get (g := g) hM
      have hx : fs_cv g (.ref x) = .ref (fs_ad g x) := rfl
      simp only [List.map_cons, hx]
      rw [show fs_cv g (.ref k) = .ref (fs_B g + k) by simp only [fs_cv, fs_lt hW hM]]
      have hf : narrow (ty0 j) (.ref (fs_ad g x)) = .ref (fs_ad g x) ∧ fits (ty0 j) (.ref (fs_ad g x)) = true := by
        rcases hty with ⟨n, e⟩ | ⟨n, e⟩ <;> rw [e] <;> exact ⟨rfl, rfl⟩
      refine fs_put C0.1 C0.2.1 C0.2.2.2.2.2.2.1 hC.2.1 ty0 hC.2.2.1 hC.2.2.2 C0.2.2.2.2.2.1 C0.2.2.2.2.2.2.2.2.2.1.1 hW.1 (fs_wl_D g M) hS k hg hC.1 j hj (C0.2.2.2.2.2.2.1 _ hl) (hfin.imp id (fun q => ⟨q.1, C0.2.2.2.2.2.2.2.1.trans q.2.1, q.2.2⟩)) hf.1 hf.2 (by simp [fs_fl]; exact hj2) hd (fun H1 locs1 hz1 hP1 hS1 => ?_)
      rw [fs_wl_putr hM hj2] at hP1
      exact h ls r _ hk p e R s m args below meth c H1 locs1 lsA C0 hS1 ⟨hP1, by simp; exact hW.2.1, fun q => by rw [hz1]; simp; exact hW.2.2 q⟩ hL
    · exact hk.elim
  · exact hk.elim
/-- which of the four array classes -/
def fs_ti : FieldType → Nat
  | .int => 0
  | .boolean => 1
  | .byte => 2
  | _ => 3
theorem fs_ty_at (g : fs_G) {ty : FieldType} (h : ty = .int ∨ ty = .boolean ∨ ty = .byte ∨ ty = .long) : (fs_ty g)[fs_ti ty]? = some (fs_t g ty, ty) := by
  rcases h with rfl | rfl | rfl | rfl <;> rfl
theorem fo_iald (hd : decode (fs_ic μ) pc = .ok (.iaload, 1)) (h : fs_E g μ d u Q (pc + 1) K) : fs_E g μ d u Q pc (fi_ald .int K) := by
  intro ls st M hk p e R s m args below meth c H locs lsA C0 hS hW hL
  unfold fi_ald at hk
  split at hk
  · rename_i i k r
    split at hk
    · rename_i t n hM
      obtain ⟨rfl, hin, hk⟩ := hk
      simp only [List.map_cons, fs_cv, fs_lt hW hM]
      exact va_iald C0.1 C0.2.1 C0.2.2.2.2.2.2.2.2.2.1.1 hW.1 k 0 (fs_wl_get hM) rfl hin hd (h ls _ M hk p e R s m args below meth c H locs lsA C0 hS hW hL)
    · exact hk.elim
  · exact hk.elim
theorem fo_zald (hd : decode (fs_ic μ) pc = .ok (.baload, 1)) (h : fs_E g μ d u Q (pc + 1) K) : fs_E g μ d u Q pc (fi_ald .boolean K) := by
  intro ls st M hk p e R s m args below meth c H locs lsA C0 hS hW hL
  unfold fi_ald at hk
  split at hk
  · rename_i i k r
    split at hk
    · rename_i t n hM
      obtain ⟨rfl, hin, hk⟩ := hk
      simp only [List.map_cons, fs_cv, fs_lt hW hM]
      exact va_zald C0.1 C0.2.1 C0.2.2.2.2.2.2.2.2.2.1.1 hW.1 k 1 (fs_wl_get hM) rfl hin hd (h ls _ M hk p e R s m args below meth c H locs lsA C0 hS hW hL)
    · exact hk.elim
  · exact hk.elim
theorem fo_bald (hd : decode (fs_ic μ) pc = .ok (.baload, 1)) (h : fs_E g μ d u Q (pc + 1) K) : fs_E g μ d u Q pc (fi_ald .byte K) := by
  intro ls st M hk p e R s m args below meth c H locs lsA C0 hS hW hL
  unfold fi_ald at hk
  split at hk
  · rename_i i k r
    split at hk
    · rename_i t n hM
      obtain ⟨rfl, hin, hk⟩ := hk
      simp only [List.map_cons, fs_cv, fs_lt hW hM]
      exact va_bald C0.1 C0.2.1 C0.2.2.2.2.2.2.2.2.2.1.1 hW.1 k 2 (fs_wl_get hM) rfl hin hd (h ls _ M hk p e R s m args below meth c H locs lsA C0 hS hW hL)
    · exact hk.elim
  · exact hk.elim
theorem fo_lald (hd : decode (fs_ic μ) pc = .ok (.laload, 1)) (h : fs_E g μ d u Q (pc + 1) K) : fs_E g μ d u Q pc (fi_lald K) := by
  intro ls st M hk p e R s m args below meth c H locs lsA C0 hS hW hL
  unfold fi_lald at hk
  split at hk
  · rename_i i k r
    split at hk
    · rename_i t n hM
      obtain ⟨rfl, hin, hk⟩ := hk
      simp only [List.map_cons, fs_cv, fs_lt hW hM]
      exact va_lald C0.1 C0.2.1 C0.2.2.2.2.2.2.2.2.2.1.1 hW.1 k 3 (fs_wl_get hM) rfl hin hd (h ls _ M hk p e R s m args below meth c H locs lsA C0 hS hW hL)
    · exact hk.elim
  · exact hk.elim
theorem fs_wl_ast {g : fs_G} {M : fs_M} {k i n : Nat} {ty : FieldType} {x : Int32} (hM : M.1.1[k]? = some (.inl (ty, n))) (ht : ty = .int ∨ ty = .boolean ∨ ty = .byte) :
    (fs_wl g M).set k (fs_B g + k, .inl (fs_t g ty, n, .inl (upd (M.2.1 k) i x))) = fs_wl g (M.1, fs_u M.2.1 k i x, M.2.2) := by
  refine fs_wl_set rfl (fun sh hs => ?_) (fun _ _ => rfl) (fun i hi => fs_u_ne hi) (fun _ _ => rfl)
  cases hM.symm.trans hs
  rcases ht with rfl | rfl | rfl <;> simp only [fs_en, fs_u_self]
theorem fs_wl_last {g : fs_G} {M : fs_M} {k i n : Nat} {x : Int64} (hM : M.1.1[k]? = some (.inl (.long, n))) :
    (fs_wl g M).set k (fs_B g + k, .inl (fs_t g .long, n, .inr (.inl (vp_updL (M.2.2 k) i x)))) = fs_wl g (M.1, M.2.1, fs_uL M.2.2 k i x) := by
  refine fs_wl_set rfl (fun sh hs => ?_) (fun _ _ => rfl) (fun _ _ => rfl) (fun i hi => fs_uL_ne hi)
  cases hM.symm.trans hs
  simp only [fs_en, fs_uL_self]
theorem fs_P_set {g : fs_G} {M : fs_M} {H H1 : Heap} {k : Nat} {e0 e1 : va_E} (hW : fs_W g M H) (h0 : (fs_wl g M)[k]? = some (fs_B g + k, e0)) (h1 : va_at (fs_D g) vwCl (fs_B g + k, e1) H1) (oq : ∀ q : Nat, q ≠ fs_B g + k → H1[q]? = H[q]?) : va_P (fs_D g) vwCl ((fs_wl g M).set k (fs_B g + k, e1)) H1 := hW.1.set (fs_wl_D g M) h0 h1 oq
theorem fs_at_i {H1 : Heap} {a i n : Nat} {cA : ClassId} {f : Nat → Int32} {x y : Int32} (e : H1[a]? = some ((vp_cell cA (n, .inl f)).setSlot i (.int y))) (hy : y = x) : H1[a]? = some (vp_cell cA (n, .inl (upd f i x))) := by
  subst hy
  rw [e, vp_cell_i, vp_cell_i, arrV_store]
  congr 2
  funext q
  by_cases hq : q = i
  · subst hq
    simp [updV, upd]
  · simp [updV, upd, hq]
theorem fo_iast (hd : decode (fs_ic μ) pc = .ok (.iastore, 1)) (h : fs_E g μ d u Q (pc + 1) K) : fs_E g μ d u Q pc (fi_ast .int K) := by
  intro ls st M hk p e R s m args below meth c H locs lsA C0 hS hW hL
  unfold fi_ast at hk
  split at hk
  · rename_i x i k r
    split at hk
    · rename_i t n hM
      obtain ⟨rfl, hin, hk⟩ := hk
      simp only [List.map_cons, fs_cv, fs_lt hW hM]
      have hg := fs_wl_get (g := g) hM
      refine W.iast C0.1 C0.2.1 (hW.1 k _ hg) ((C0.2.2.2.2.2.2.2.2.2.1.1.2 0 _ rfl).1 n (fun j => .int (M.2.1 k j))) (fun q => by cases q) (by show ¬ (i < 0 ∨ (arrV _ _ _).slots.size ≤ _); rw [arrV_size]; exact hin) rfl rfl hd fun H1 e1 z oq => ?_
      have hP1 := fs_P_set hW hg (e1 := .inl (fs_t g .int, n, .inl (upd (M.2.1 k) i.toNatClampNeg x))) (fs_at_i e1 rfl) oq
      rw [fs_wl_ast hM (Or.inl rfl)] at hP1
      exact h ls r _ hk p e R s m args below meth c H1 _ lsA C0 (hS.put z oq (Nat.le_add_right _ _)) ⟨hP1, hW.2.1, fun q => by rw [z]; exact hW.2.2 q⟩ hL
    · exact hk.elim
  · exact hk.elim
theorem fo_zast (hd : decode (fs_ic μ) pc = .ok (.bastore, 1)) (h : fs_E g μ d u Q (pc + 1) K) : fs_E g μ d u Q pc (fi_ast .boolean K) := by
  intro ls st M hk p e R s m args below meth c H locs lsA C0 hS hW hL
  unfold fi_ast at hk
  split at hk
  · rename_i x i k r
    split at hk
    · rename_i t n hM
      obtain ⟨rfl, hin, hk⟩ := hk
      simp only [List.map_cons, fs_cv, fs_lt hW hM]
      have hg := fs_wl_get (g := g) hM
      refine W.zast C0.1 C0.2.1 (hW.1 k _ hg) ((C0.2.2.2.2.2.2.2.2.2.1.1.2 1 _ rfl).1 n (fun j => .int (M.2.1 k j))) (fun q => by cases q) (by show ¬ (i < 0 ∨ (arrV _ _ _).slots.size ≤ _); rw [arrV_size]; exact hin) rfl rfl hd fun H1 e1 z oq => ?_
      have hP1 := fs_P_set hW hg (e1 := .inl (fs_t g .boolean, n, .inl (upd (M.2.1 k) i.toNatClampNeg (vp_nar .boolean x)))) (fs_at_i e1 rfl) oq
      rw [fs_wl_ast hM (Or.inr (Or.inl rfl))] at hP1
      exact h ls r _ hk p e R s m args below meth c H1 _ lsA C0 (hS.put z oq (Nat.le_add_right _ _)) ⟨hP1, hW.2.1, fun q => by rw [z]; exact hW.2.2 q⟩ hL
    · exact hk.elim
  · exact hk.elim
theorem fo_bast (hd : decode (fs_ic μ) pc = .ok (.bastore, 1)) (h : fs_E g μ d u Q (pc + 1) K) : fs_E g μ d u Q pc (fi_ast .byte K) := by
  intro ls st M hk p e R s m args below meth c H locs lsA C0 hS hW hL
  unfold fi_ast at hk
  split at hk
  · rename_i x i k r
    split at hk
    · rename_i t n hM
      obtain ⟨rfl, hin, hk⟩ := hk
      simp only [List.map_cons, fs_cv, fs_lt hW hM]
      have hg := fs_wl_get (g := g) hM
      refine W.bast C0.1 C0.2.1 (hW.1 k _ hg) ((C0.2.2.2.2.2.2.2.2.2.1.1.2 2 _ rfl).1 n (fun j => .int (M.2.1 k j))) (fun q => by cases q) (by show ¬ (i < 0 ∨ (arrV _ _ _).slots.size ≤ _); rw [arrV_size]; exact hin) rfl rfl hd fun H1 e1 z oq => ?_
      have hP1 := fs_P_set hW hg (e1 := .inl (fs_t g .byte, n, .inl (upd (M.2.1 k) i.toNatClampNeg (vp_nar .byte x)))) (fs_at_i e1 rfl) oq
      rw [fs_wl_ast hM (Or.inr (Or.inr rfl))] at hP1
      exact h ls r _ hk p e R s m args below meth c H1 _ lsA C0 (hS.put z oq (Nat.le_add_right _ _)) ⟨hP1, hW.2.1, fun q => by rw [z]; exact hW.2.2 q⟩ hL
    · exact hk.elim
  · exact hk.elim
theorem fo_last (hd : decode (fs_ic μ) pc = .ok (.lastore, 1)) (h : fs_E g μ d u Q (pc + 1) K) : fs_E g μ d u Q pc (fi_last K) := by
  intro ls st M hk p e R s m args below meth c H locs lsA C0 hS hW hL
  unfold fi_last at hk
  split at hk
  · rename_i x i k r
    split at hk
    · rename_i t n hM
      obtain ⟨rfl, hin, hk⟩ := hk
      simp only [List.map_cons, fs_cv, fs_lt hW hM]
      have hg := fs_wl_get (g := g) hM
      refine W.last C0.1 C0.2.1 (hW.1 k _ hg) ((C0.2.2.2.2.2.2.2.2.2.1.1.2 3 _ rfl).1 n (fun j => .long (M.2.2 k j))) (fun q => by cases q) (by show ¬ (i < 0 ∨ (arrV _ _ _).slots.size ≤ _); rw [arrV_size]; exact hin) rfl rfl hd fun H1 e1 z oq => ?_
      have hP1 := fs_P_set hW hg (e1 := .inl (fs_t g .long, n, .inr (.inl (vp_updL (M.2.2 k) i.toNatClampNeg x)))) (by
        show H1[_]? = some (vp_cell _ _)
        rw [e1]
        show some ((vp_cell (fs_t g .long) (n, .inr (.inl (M.2.2 k)))).setSlot _ _) = some (vp_cell (fs_t g .long) (n, .inr (.inl _)))
        rw [vp_cell_l, vp_cell_l, arrV_store]
        congr 2
        funext q
        by_cases hq : q = i.toNatClampNeg
        · subst hq
          simp [updV, vp_updL]
        · simp [updV, vp_updL, hq]) oq
      rw [fs_wl_last hM] at hP1
      exact h ls r _ hk p e R s m args below meth c H1 _ lsA C0 (hS.put z oq (Nat.le_add_right _ _)) ⟨hP1, hW.2.1, fun q => by rw [z]; exact hW.2.2 q⟩ hL
    · exact hk.elim
  · exact hk.elim
theorem fo_alen (hd : decode (fs_ic μ) pc = .ok (.arraylength, 1)) (h : fs_E g μ d u Q (pc + 1) K) : fs_E g μ d u Q pc (fi_alen K) := by
  intro ls st M hk p e R s m args below meth c H locs lsA C0 hS hW hL
  unfold fi_alen at hk
  split at hk
  · rename_i k r
    split at hk
    · rename_i t n hM
      obtain ⟨ht, hk⟩ := hk
      simp only [List.map_cons, fs_cv, fs_lt hW hM]
      refine va_alen C0.1 C0.2.1 C0.2.2.2.2.2.2.2.2.2.1.1 hW.1 k (fs_ti t) (fs_wl_get hM) (fs_ty_at g (by rcases ht with h | h <;> simp [h])) rfl hd (h ls _ M hk p e R s m args below meth c H locs lsA C0 hS hW hL)
    · exact hk.elim
  · exact hk.elim
end FO3
