/-! ===== making cells, statics, copies, texts, switches ===== -/
def fs_z (σ : Nat → Nat → Int32) (n : Nat) : Nat → Nat → Int32 := fun a b => if a = n then 0 else σ a b
def fs_zL (τ : Nat → Nat → Int64) (n : Nat) : Nat → Nat → Int64 := fun a b => if a = n then 0 else τ a b
def fs_df : FieldType → Option (Option Nat)
  | .object _ => some none
  | .array _ => some none
  | _ => none
def fi_new (ci : Nat) (rs : List (Option (Option Nat))) (K : fs_P) : fs_P := fun ls st M => M.1.2 = true ∧ M.1.1.length < 10000 ∧ K ls (.ref M.1.1.length :: st) ((M.1.1 ++ [.inr (ci, rs)], true), fs_z M.2.1 M.1.1.length, M.2.2)
def fi_newa (ty : FieldType) (N : Nat) (K : fs_P) : fs_P := fun ls st M => match st with
  | .int x :: r => x = nI N ∧ M.1.2 = true ∧ M.1.1.length < 10000 ∧ K ls (.ref M.1.1.length :: r) ((M.1.1 ++ [.inl (ty, N)], true), fs_z M.2.1 M.1.1.length, fs_zL M.2.2 M.1.1.length)
  | _ => False
def fi_oinit (K : fs_P) : fs_P := fun ls st M => match st with | .ref _ :: t => t.length ≤ 4 ∧ K ls t M | _ => False
def fi_mm (f : Int32 → Int32 → Int32) (K : fs_P) : fs_P := fun ls st M => match st with | .int y :: .int x :: t => t.length ≤ 4 ∧ K ls (.int (f x y) :: t) M | _ => False
/-- a cell that was there before: its place -/
def fi_stat (i : Nat) (K : fs_P) : fs_P := fun ls st M => K ls (.ref (10000 + i) :: st) M
def fi_alds (i : Nat) (xs : List Int32) (K : fs_P) : fs_P := fun ls st M => match st with | .int x :: .ref k :: t => k = 10000 + i ∧ vp_in x 4 ∧ K ls (.int (xs.getD x.toNatClampNeg 0) :: t) M | _ => False
def fs_cp (σ : Nat → Nat → Int32) (b : Nat) (f : Nat → Int32) (sp dp n : Nat) : Nat → Nat → Int32 := fun x y => if x = b then va_cpy f (σ b) sp dp n y else σ x y
def fi_acp (K : fs_P) : fs_P := fun ls st M => match st with
  | .int n :: .int dp :: .ref b :: .int sp :: .ref a :: t => t.length ≤ 4 ∧ ∃ na nb, M.1.1[a]? = some (.inl (.int, na)) ∧ M.1.1[b]? = some (.inl (.int, nb)) ∧ (¬ sp < 0 ∧ ¬ dp < 0 ∧ ¬ n < 0) ∧ sp.toNatClampNeg + n.toNatClampNeg ≤ na ∧ dp.toNatClampNeg + n.toNatClampNeg ≤ nb ∧ K ls t (M.1, fs_cp M.2.1 b (M.2.1 a) sp.toNatClampNeg dp.toNatClampNeg n.toNatClampNeg, M.2.2)
  | _ => False
def fi_acps (i : Nat) (xs : List Int32) (K : fs_P) : fs_P := fun ls st M => match st with
  | .int n :: .int dp :: .ref b :: .int sp :: .ref a :: t => t.length ≤ 4 ∧ a = 10000 + i ∧ ∃ nb, M.1.1[b]? = some (.inl (.int, nb)) ∧ (¬ sp < 0 ∧ ¬ dp < 0 ∧ ¬ n < 0) ∧ sp.toNatClampNeg + n.toNatClampNeg ≤ 4 ∧ dp.toNatClampNeg + n.toNatClampNeg ≤ nb ∧ K ls t (M.1, fs_cp M.2.1 b (fun j => xs.getD j 0) sp.toNatClampNeg dp.toNatClampNeg n.toNatClampNeg, M.2.2)
  | _ => False
theorem fs_ad_s (g : fs_G) (i : Nat) : fs_ad g (10000 + i) = fs_s g i := by
  unfold fs_ad
  rw [if_neg (by omega), Nat.add_sub_cancel_left]
theorem fs_wl_app {g : fs_G} {M : fs_M} {sh : fs_Sh} {b : Bool} {σ : Nat → Nat → Int32} {τ : Nat → Nat → Int64} (hs : ∀ k, k < M.1.1.length → σ k = M.2.1 k) (ht : ∀ k, k < M.1.1.length → τ k = M.2.2 k) :
    fs_wl g ((M.1.1 ++ [sh], b), σ, τ) = fs_wl g M ++ [(fs_B g + M.1.1.length, fs_en g σ τ M.1.1.length sh)] := by
  apply List.ext_getElem?
  intro j
  by_cases h : j < M.1.1.length
  · rw [List.getElem?_append_left (by simp [fs_wl, h])]
    simp only [fs_wl, List.getElem?_mapIdx, List.getElem?_append_left h]
    cases hq : M.1.1[j]? with
    | none => rfl
    | some x =>
      simp only [Option.map_some]
      congr 2
      obtain ⟨ty, n⟩ | ⟨c, rs⟩ := x
      · simp only [fs_en, hs j h, ht j h]
      · simp only [fs_en, fs_fl, fs_sl, hs j h]
  · rw [List.getElem?_append_right (by simp [fs_wl]; omega)]
    simp only [fs_wl, List.getElem?_mapIdx, List.length_mapIdx]
    rw [List.getElem?_append_right (by omega)]
    by_cases h2 : j = M.1.1.length
    · subst h2
      simp
    · rw [List.getElem?_eq_none (by simp; omega), List.getElem?_eq_none (by simp; omega)]
      rfl
theorem fs_z_lt {σ : Nat → Nat → Int32} {n k : Nat} (h : k < n) : fs_z σ n k = σ k := by
  funext b
  simp [fs_z, Nat.ne_of_lt h]
theorem fs_zL_lt {σ : Nat → Nat → Int64} {n k : Nat} (h : k < n) : fs_zL σ n k = σ k := by
  funext b
  simp [fs_zL, Nat.ne_of_lt h]
section FO7
variable {g : fs_G} {μ μ' : fs_I} {d : Nat} {u : Nat × Nat} {Q : Option Value → fs_M → Prop} {pc : Nat} {K K1 K2 : fs_P}
theorem fo_new {ci N index : Nat} {C : String} {T : u_T} {ty0 : Nat → FieldType} {rs : List (Option (Option Nat))} (hC : fs_cl ci C T N ty0) (hrs : rs = (List.range N).map (fun j => fs_df (ty0 j))) (hty : ∀ j, j < N → ty0 j = .int ∨ ty0 j = .boolean ∨ (∃ n, ty0 j = .object n) ∨ ∃ t, ty0 j = .array t)
    (hl : Cond.classLink (fs_iy μ).cls index C ∈ fs_tb) (hi : Cond.instantiable C N ∈ fs_tb) (hini : Cond.initialized C ∈ fs_tb) (hu : u.1 + 1 ≤ fs_mc μ ∧ u.2 + N ≤ fs_ms μ) {u' : Nat × Nat} (hu' : (u.1 + 1, u.2 + N) = u') (hd : decode (fs_ic μ) pc = .ok (.new index, 3)) (h : fs_E g μ d u' Q (pc + 3) K) : fs_E g μ d u Q pc (fi_new ci rs K) := by
  subst hu'
  intro ls st M hk p e R s m args below meth c H locs lsA C0 hS hW hL
  obtain ⟨hf, hlen, hk⟩ := hk
  have hts := C0.2.2.2.2.2.2.1
  have hRe := C0.2.2.2.2.2.2.2.2.1
  have hK := C0.2.2.2.2.2.2.2.2.2.1.1
  have hKn := hK.1 ci _ hC.1
  have hsz : H.size = fs_B g + M.1.1.length := hW.2.2 hf
  refine W.newcK C0.1 C0.2.1 C0.2.2.2.2.2.1 (hts _ hl) (hts _ hi) (hts _ hini) rfl hd (by rw [hRe]; exact hu.1) (by rw [hRe]; exact hu.2) hKn.2.1 hsz fun H1 kC hkC e1 z1 o1 => ?_
  have hr : (Value.ref (fs_B g + M.1.1.length) :: st.map (fs_cv g)) = (Value.ref M.1.1.length :: st).map (fs_cv g) := by simp only [List.map_cons, fs_cv, fs_ad_lt hlen]
  show W p g.1 e R s m args below meth c H1 locs (u.1 + 1) (u.2 + N) _ (F0 m (pc + 3) lsA (Value.ref (fs_B g + M.1.1.length) :: st.map (fs_cv g)))
  rw [hr]
  refine h ls _ _ hk p e R s m args below meth c H1 locs lsA C0 ⟨Nat.le_trans hS.1 (by omega), fun q h1 h2 => (o1 q (by have := hS.1; omega)).trans (hS.2.1 q h1 h2), hS.2.2⟩ ⟨?_, by simp; omega, fun _ => by simp; omega⟩ hL
  rw [fs_wl_app (fun k hk => fs_z_lt hk) (fun k hk => rfl)]
  refine va_P.app (hW.1.kept (fun k x hx => o1 x.1 (by rw [← hsz]; exact (hW.1 k x hx).lt))) (fun k x hx => ?_)
  have hz : k < 1 := (List.getElem?_eq_some_iff.mp hx).1
  rw [show k = 0 by omega] at hx
  cases hx
  refine ⟨_, hC.1, (u_born ty0 hts hC.2.1 hKn hkC e1 hC.2.2.1).to (fun j hj => ?_)⟩
  subst hrs
  have hj' : j < N := hj
  have e2 : ((List.range N).map (fun j => fs_df (ty0 j)))[j]? = some (fs_df (ty0 j)) := by simp [hj']
  simp only [vp_V, List.getD_eq_getElem?_getD]
  rw [fs_fl_get e2]
  rcases hty j hj with e | e | ⟨n, e⟩ | ⟨n, e⟩ <;> rw [e] <;> simp [fs_df, fs_sl, fs_z, defaultValue]
theorem fo_newa {ty : FieldType} {atype : ArrayType} {N : Nat} (hty : newarray.typeOf atype = ty) (hty4 : ty = .int ∨ ty = .boolean ∨ ty = .byte ∨ ty = .long) (hN : N < 1000000) (hl : Cond.arrayClass ty ∈ fs_tb) (hu : u.1 + 1 ≤ fs_mc μ ∧ u.2 + N ≤ fs_ms μ) {u' : Nat × Nat} (hu' : (u.1 + 1, u.2 + N) = u') (hd : decode (fs_ic μ) pc = .ok (.newarray atype, 2)) (h : fs_E g μ d u' Q (pc + 2) K) : fs_E g μ d u Q pc (fi_newa ty N K) := by
  subst hu'
  intro ls st M hk p e R s m args below meth c H locs lsA C0 hS hW hL
  unfold fi_newa at hk
  split at hk
  · rename_i x r
    obtain ⟨rfl, hf, hlen, hk⟩ := hk
    have hts := C0.2.2.2.2.2.2.1
    have hRe := C0.2.2.2.2.2.2.2.2.1
    have hK := C0.2.2.2.2.2.2.2.2.2.1.1
    have hsz : H.size = fs_B g + M.1.1.length := hW.2.2 hf
    have hN2 : N < 2 ^ 31 := Nat.lt_trans hN (by decide)
    refine va_newaK (g := F0 m pc lsA (.int (nI N) :: r.map (fs_cv g))) (atype := atype) C0.1 C0.2.1 (by rw [hty]; exact hts _ hl) rfl hd rfl (nI_pos hN2) (nI_clamp hN2) (by rw [hty]; rcases hty4 with e | e | e | e <;> rw [e] <;> simp [componentBytes] <;> omega) (by rw [hRe]; exact hu.1) (by rw [hRe]; exact hu.2) hsz fun H1 cA e1 z1 o1 hAr hNm => ?_
    have hr : (Value.ref (fs_B g + M.1.1.length) :: r.map (fs_cv g)) = (Value.ref M.1.1.length :: r).map (fs_cv g) := by simp only [List.map_cons, fs_cv, fs_ad_lt hlen]
    show W p g.1 e R s m args below meth c H1 locs (u.1 + 1) (u.2 + N) _ (F0 m (pc + 2) lsA (Value.ref (fs_B g + M.1.1.length) :: r.map (fs_cv g)))
    rw [hr]
    refine h ls _ _ hk p e R s m args below meth c H1 locs lsA C0 ⟨Nat.le_trans hS.1 (by omega), fun q h1 h2 => (o1 q (by have := hS.1; omega)).trans (hS.2.1 q h1 h2), hS.2.2⟩ ⟨?_, by simp; omega, fun _ => by simp; omega⟩ hL
    rw [fs_wl_app (fun k hk => fs_z_lt hk) (fun k hk => fs_zL_lt hk)]
    refine va_P.app (hW.1.kept (fun k x hx => o1 x.1 (by rw [← hsz]; exact (hW.1 k x hx).lt))) (fun k x hx => ?_)
    have hz : k < 1 := (List.getElem?_eq_some_iff.mp hx).1
    rw [show k = 0 by omega] at hx
    cases hx
    have hcA : cA = fs_t g ty := by
      have h1 := (hK.2 (fs_ti ty) _ (fs_ty_at g hty4)).2
      rw [hty] at hNm
      have h2 : s.vm.findClass ("[" ++ ty.toString) = some (fs_t g ty) := by rcases hty4 with e | e | e | e <;> subst e <;> exact h1
      exact Option.some.inj (hNm.symm.trans h2)
    subst hcA
    rw [hty] at e1
    show H1[_]? = some (vp_cell _ _)
    refine e1.trans ?_
    rcases hty4 with e | e | e | e <;> subst e <;> simp only [fs_en, vp_cell, fs_z, fs_zL, if_true, defaultValue] <;> rfl
  · exact hk.elim
theorem fo_oinit {index : Nat} (hl : Cond.methodLink (fs_iy μ).cls index objectInit ∈ fs_tb) (hi : Cond.instanceMethod objectInit ∈ fs_tb) (hc : Cond.code objectInit ⟨#[0xb1]⟩ 1 none ∈ fs_tb) (hdp : 1 ≤ fs_dp μ) (hd : decode (fs_ic μ) pc = .ok (.invokespecial index, 3)) (h : fs_E g μ d u Q (pc + 3) K) : fs_E g μ d u Q pc (fi_oinit K) := by
  intro ls st M hk p e R s m args below meth c H locs lsA C0 hS hW hL
  unfold fi_oinit at hk
  split at hk
  · rename_i k t
    have hts := C0.2.2.2.2.2.2.1
    have hRe := C0.2.2.2.2.2.2.2.2.1
    have hd1 : 1 ≤ d := Nat.le_trans hdp C0.2.2.2.2.2.2.2.2.2.2.2
    refine W.objInit (g := F0 m pc lsA (.ref (fs_ad g k) :: t.map (fs_cv g))) C0.1 C0.2.1 C0.2.2.2.2.2.1 (hts _ hl) (hts _ hi) (hts _ hc) rfl (hL.1.1.trans C0.2.2.2.2.1.symm) rfl hd (by rw [hRe]; exact hd1) (by
      rw [hRe]
      have h8 := fs_cats (g := g) hk.1
      show 2 * 0 + _ + 12 ≤ 64 * d
      omega) (h ls t M hk.2 p e R s m args below meth c H locs lsA C0 hS hW hL)
  · exact hk.elim
theorem fo_max {index : Nat} (hl : Cond.methodLink (fs_iy μ).cls index Lib.Math.max.name ∈ fs_tb) (hst : Cond.static Lib.Math.max.name ∈ fs_tb) (hi : Cond.initialized "java/lang/Math" ∈ fs_tb) (hc : Cond.code Lib.Math.max.name Lib.Math.max.code 2 (some .int) ∈ fs_tb) (hdp : 1 ≤ fs_dp μ) (hu : u.1 ≤ fs_mc μ ∧ u.2 ≤ fs_ms μ) (hd : decode (fs_ic μ) pc = .ok (.invokestatic index, 3)) (h : fs_E g μ d u Q (pc + 3) K) : fs_E g μ d u Q pc (fi_mm (fun x y => if x < y then y else x) K) := by
  intro ls st M hk p e R s m args below meth c H locs lsA C0 hS hW hL
  unfold fi_mm at hk
  split at hk
  · rename_i y x t
    have hts := C0.2.2.2.2.2.2.1
    have hRe := C0.2.2.2.2.2.2.2.2.1
    have hd1 : 1 ≤ d := Nat.le_trans hdp C0.2.2.2.2.2.2.2.2.2.2.2
    refine va_mmax C0.1 C0.2.1 (C0.2.2.2.2.1.trans hL.1.1.symm) C0.2.2.2.2.2.1 (hts _ hl) (hts _ hst) (hts _ hi) (hts _ hc) (by rw [hRe]; exact hd1) (by
      rw [hRe]
      have h8 := fs_cats (g := g) hk.1
      show _ + 13 ≤ 64 * d
      omega) (by rw [hRe]; exact hu.1) (by rw [hRe]; exact hu.2) hd (h ls _ M hk.2 p e R s m args below meth c H locs lsA C0 hS hW hL)
  · exact hk.elim
theorem fo_min {index : Nat} (hl : Cond.methodLink (fs_iy μ).cls index Lib.Math.min.name ∈ fs_tb) (hst : Cond.static Lib.Math.min.name ∈ fs_tb) (hi : Cond.initialized "java/lang/Math" ∈ fs_tb) (hc : Cond.code Lib.Math.min.name Lib.Math.min.code 2 (some .int) ∈ fs_tb) (hdp : 1 ≤ fs_dp μ) (hu : u.1 ≤ fs_mc μ ∧ u.2 ≤ fs_ms μ) (hd : decode (fs_ic μ) pc = .ok (.invokestatic index, 3)) (h : fs_E g μ d u Q (pc + 3) K) : fs_E g μ d u Q pc (fi_mm (fun x y => if y < x then y else x) K) := by
  intro ls st M hk p e R s m args below meth c H locs lsA C0 hS hW hL
  unfold fi_mm at hk
  split at hk
  · rename_i y x t
    have hts := C0.2.2.2.2.2.2.1
    have hRe := C0.2.2.2.2.2.2.2.2.1
    have hd1 : 1 ≤ d := Nat.le_trans hdp C0.2.2.2.2.2.2.2.2.2.2.2
    refine va_mmin C0.1 C0.2.1 (C0.2.2.2.2.1.trans hL.1.1.symm) C0.2.2.2.2.2.1 (hts _ hl) (hts _ hst) (hts _ hi) (hts _ hc) (by rw [hRe]; exact hd1) (by
      rw [hRe]
      have h8 := fs_cats (g := g) hk.1
      show _ + 13 ≤ 64 * d
      omega) (by rw [hRe]; exact hu.1) (by rw [hRe]; exact hu.2) hd (h ls _ M hk.2 p e R s m args below meth c H locs lsA C0 hS hW hL)
  · exact hk.elim
theorem fo_gets {index i : Nat} {nm : String} {xs : List Int32} (hq : (nm, i, xs) ∈ fs_sa) (hl : Cond.fieldLink (fs_iy μ).cls index "FilmSchedule" nm "[I" ∈ fs_tb) (hd : decode (fs_ic μ) pc = .ok (.getstatic index, 3)) (h : fs_E g μ d u Q (pc + 3) K) : fs_E g μ d u Q pc (fi_stat i K) := by
  intro ls st M hk p e R s m args below meth c H locs lsA C0 hS hW hL
  have h1 := h ls _ M hk p e R s m args below meth c H locs lsA C0 hS hW hL
  simp only [List.map_cons, fs_cv, fs_ad_s] at h1
  exact va_gets C0.1 C0.2.1 (C0.2.2.2.2.2.2.2.2.2.1.2.2.1 _ hq).1 hS C0.2.2.2.2.2.1 (C0.2.2.2.2.2.2.1 _ hl) (fun _ x => x) hd h1
theorem fo_getsN {index i : Nat} {nm host : String} {xs : List Int32} (hq : (nm, i, xs) ∈ fs_sa) (hl : ((fs_iy μ).cls, index, "FilmSchedule", nm, "[I", host) ∈ fs_fn) (hd : decode (fs_ic μ) pc = .ok (.getstatic index, 3)) (h : fs_E g μ d u Q (pc + 3) K) : fs_E g μ d u Q pc (fi_stat i K) := by
  intro ls st M hk p e R s m args below meth c H locs lsA C0 hS hW hL
  have h1 := h ls _ M hk p e R s m args below meth c H locs lsA C0 hS hW hL
  simp only [List.map_cons, fs_cv, fs_ad_s] at h1
  exact va_getsN C0.1 C0.2.1 (C0.2.2.2.2.2.2.2.2.2.1.2.2.1 _ hq).1 hS C0.2.2.2.2.2.1 (va_Nw.use rfl (C0.2.2.2.2.2.2.2.2.2.1.2.1.2.1 _ hl)) (fun _ x => x) hd h1
theorem fo_alds {i : Nat} {nm : String} {xs : List Int32} (hq : (nm, i, xs) ∈ fs_sa) (hd : decode (fs_ic μ) pc = .ok (.iaload, 1)) (h : fs_E g μ d u Q (pc + 1) K) : fs_E g μ d u Q pc (fi_alds i xs K) := by
  intro ls st M hk p e R s m args below meth c H locs lsA C0 hS hW hL
  unfold fi_alds at hk
  split at hk
  · rename_i x k t
    obtain ⟨rfl, hin, hk⟩ := hk
    simp only [List.map_cons, fs_cv, fs_ad_s]
    exact va_ti C0.1 C0.2.1 (C0.2.2.2.2.2.2.2.2.2.1.2.2.1 _ hq).2 hS hin rfl hd (h ls _ M hk p e R s m args below meth c H locs lsA C0 hS hW hL)
  · exact hk.elim
theorem fo_ldcS {index i : Nat} {tx : String} {bs : List Int32} (hq : ((fs_iy μ).cls, index, tx, bs, i) ∈ fs_sr) (hd : decode (fs_ic μ) pc = .ok (.ldc index, 2)) (h : fs_E g μ d u Q (pc + 2) K) : fs_E g μ d u Q pc (fi_stat (100 + i) K) := by
  intro ls st M hk p e R s m args below meth c H locs lsA C0 hS hW hL
  have h1 := h ls _ M hk p e R s m args below meth c H locs lsA C0 hS hW hL
  simp only [List.map_cons, fs_cv, fs_ad_s] at h1
  exact va_ldcS C0.1 C0.2.1 C0.2.2.2.2.2.1 (C0.2.2.2.2.2.2.2.2.2.1.2.1.2.2.1 _ hq) hd h1
end FO7
