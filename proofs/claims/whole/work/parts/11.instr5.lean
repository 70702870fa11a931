/-! ===== copies, switches ===== -/
/-- switches: places lo .. lo + n - 1, and the rest -/
def fi_tsw (n : Nat) (f : Nat → fs_P) (Kd : fs_P) : fs_P := fun ls st M => match st with
  | .int x :: t => (∀ j, j < n → x = nI j → f j ls t M) ∧ ((∀ j, j < n → x ≠ nI j) → Kd ls t M)
  | _ => False
section FO8
variable {g : fs_G} {μ μ' : fs_I} {d : Nat} {u : Nat × Nat} {Q : Option Value → fs_M → Prop} {pc : Nat} {K K1 K2 : fs_P}
theorem fs_nn {z : Int32} (hz : ¬ z < 0) : z.toInt = (z.toNatClampNeg : Int) := by
  have hz0 : (0 : Int) ≤ z.toInt := by
    have := Int32.not_lt.mp hz
    simpa using Int32.le_iff_toInt_le.mp this
  show z.toInt = ((z.toInt.toNat : Nat) : Int)
  omega
theorem fs_wl_acp {g : fs_G} {M : fs_M} {k nb sp dp n : Nat} {f : Nat → Int32} (hM : M.1.1[k]? = some (.inl (.int, nb))) :
    (fs_wl g M).set k (fs_B g + k, .inl (fs_t g .int, nb, .inl (va_cpy f (M.2.1 k) sp dp n))) = fs_wl g (M.1, fs_cp M.2.1 k f sp dp n, M.2.2) := by
  refine fs_wl_set rfl (fun sh hs => ?_) (fun _ _ => rfl) (fun j hj => by funext b; simp [fs_cp, hj]) (fun _ _ => rfl)
  cases hM.symm.trans hs
  simp only [fs_en]
  congr 3
  congr 1
  funext y
  simp [fs_cp]
theorem fs_acp {p : Program} {e : Env} {R : Room} {s : State} {m : MethodId} {args : Array Value} {below : List Frame} {meth : Method} {c : Code} {H : Heap} {locs : List Loc} {cells slots : Nat} {Qw : State → Prop} {lsA : Array Slot} {rest : List Value} {cc : ByteArray} {M : fs_M} {a0 k nb n0 : Nat} {scr : Cell} {f : Nat → Int32}
    (hexec : p.tables.exec = Jvm.exec) (hb : c.code = cc) (hml : c.maxLocals = lsA.size) {own : String} {index : Nat} (hown : s.vm.findClass own = some m.cls) (hlink : (Cond.methodLink own index arraycopyName).before args s = true) (hnat : (Cond.native arraycopyName).before args s = true) (hstat : (Cond.static arraycopyName).before args s = true) (hini : (Cond.initialized "java/lang/System").before args s = true)
    (hK : va_K (fs_D g) vwCl (fs_ty g) s) (hW : fs_W g M H) (hS : va_S (fs_A g) s.heap H locs) (hM : M.1.1[k]? = some (.inl (.int, nb))) (hc0 : H[a0]? = some scr) (hs2 : s.isArrayOf scr .int) (hs3 : scr.vm ≠ .unknown) (hs4 : n0 ≤ scr.slots.size) (hs5 : ∀ j, j < n0 → scr.slots[j]? = some (.int (f j)))
    {sp dp n : Int32} (h1 : ¬ sp < 0) (h2 : ¬ dp < 0) (h3 : ¬ n < 0) (h4 : sp.toNatClampNeg + n.toNatClampNeg ≤ n0) (h5 : dp.toNatClampNeg + n.toNatClampNeg ≤ nb)
    (hframes : 1 ≤ R.frames) (hlocals : (rest.map fun v => v.category).sum + (nativeFrameWords "java/lang/System" "arraycopy" 5 + 11) ≤ R.locals) (hdg : decode cc pc = .ok (.invokestatic index, 3))
    (kk : ∀ (H1 : Heap) (locs1 : List Loc), fs_W g (M.1, fs_cp M.2.1 k f sp.toNatClampNeg dp.toNatClampNeg n.toNatClampNeg, M.2.2) H1 → va_S (fs_A g) s.heap H1 locs1 → W p g.1 e R s m args below meth c H1 locs1 cells slots Qw (F0 m (pc + 3) lsA rest)) : W p g.1 e R s m args below meth c H locs cells slots Qw (F0 m pc lsA (.int n :: .int dp :: .ref (fs_B g + k) :: .int sp :: .ref a0 :: rest)) := by
  intro T hT X
  have hg := fs_wl_get (g := g) hM
  have hc1 : H[fs_B g + k]? = some (vp_cell (fs_t g .int) (nb, .inl (M.2.1 k))) := hW.1 k _ hg
  obtain ⟨hs6, k0, hk0, cm0, hkk0⟩ := hs2
  obtain ⟨-, k1, hk1, cm1, hkk1⟩ := (hK.2 0 _ rfl).1 nb (fun j => .int (M.2.1 k j))
  obtain ⟨vm', X', step⟩ := X.arraycopy hexec hown hlink hnat hstat hini (src := a0) (dst := fs_B g + k) (cs := scr) (cd := vp_cell (fs_t g .int) (nb, .inl (M.2.1 k))) (srcPos := sp) (destPos := dp) (n := n) (by rw [hT]; exact hc0) (by rw [hT]; exact hc1)
    hs6 (fun _ h => by cases h) hs3 (fun h => by cases h) hk0 hk1 hkk0 hkk1 (by simp [refKind]) h1 h2 h3
    (by rw [fs_nn h1, fs_nn h3]; omega)
    (by rw [fs_nn h2, fs_nn h3]; show ¬ _ > ((arrV (fs_t g .int) nb (fun j => .int (M.2.1 k j))).slots.size : Int); rw [arrV_size]; omega)
    (fun vm₁ _ i hi => by
      have e : scr.slots.getD (sp.toNatClampNeg + i) .null = .int (f (sp.toNatClampNeg + i)) := by
        rw [Array.getD_eq_getD_getElem?, hs5 _ (by omega)]
        rfl
      refine ⟨?_, ?_⟩
      · rw [e]
        rfl
      · rw [e]
        exact trivial)
    (g := F0 m pc lsA (.int n :: .int dp :: .ref (fs_B g + k) :: .int sp :: .ref a0 :: rest)) rfl (by rw [hml]) (rest := rest) rfl (by rw [hb]; exact hdg) hframes (by show 2 * 0 + _ + _ ≤ _; omega)
  have e1 : copied scr (vp_cell (fs_t g .int) (nb, .inl (M.2.1 k))) sp dp n = vp_cell (fs_t g .int) (nb, .inl (va_cpy f (M.2.1 k) sp.toNatClampNeg dp.toNatClampNeg n.toNatClampNeg)) := va_copiedX (fun z => .int z) scr (fs_t g .int) f (M.2.1 k) hs5 h4
  rw [e1] at X' step
  have hl : fs_B g + k < H.size := (Array.getElem?_eq_some_iff.mp hc1).1
  generalize hcl : vp_cell (fs_t g .int) (nb, .inl (va_cpy f (M.2.1 k) sp.toNatClampNeg dp.toNatClampNeg n.toNatClampNeg)) = cl1 at X' step
  have hheap : ((T.setVm vm').setCell (fs_B g + k) cl1).heap = H.setIfInBounds (fs_B g + k) cl1 := by rw [← hT]; rfl
  have oq : ∀ q : Nat, q ≠ fs_B g + k → (H.setIfInBounds (fs_B g + k) cl1)[q]? = H[q]? := fun q hq => by simp [Array.getElem?_setIfInBounds, Ne.symm hq]
  have hP1 : va_P (fs_D g) vwCl ((fs_wl g M).set k (fs_B g + k, .inl (fs_t g .int, nb, .inl (va_cpy f (M.2.1 k) sp.toNatClampNeg dp.toNatClampNeg n.toNatClampNeg)))) (H.setIfInBounds (fs_B g + k) cl1) := fs_P_set hW hg (by
    show (H.setIfInBounds _ _)[_]? = some (vp_cell _ _)
    rw [hcl]
    simp [Array.getElem?_setIfInBounds, hl]) oq
  rw [fs_wl_acp hM] at hP1
  obtain ⟨t, a1, b1⟩ := kk _ _ ⟨hP1, hW.2.1, fun q => by simp; exact hW.2.2 q⟩ ⟨by simp; exact hS.1, fun q g1 g2 => by
      rw [oq q (fun e => g2 (by rw [e]; exact Nat.le_add_right _ _))]
      exact hS.2.1 q g1 g2, fun q hq => by
      rcases List.mem_append.mp hq with h | h
      · exact hS.2.2 q h
      · obtain ⟨z, -, hz⟩ := List.mem_map.mp h
        rw [← hz]
        exact Nat.le_add_right _ _⟩ _ hheap X'
  exact ⟨t, step t a1, b1⟩
theorem fs_nw : nativeFrameWords "java/lang/System" "arraycopy" 5 ≤ 40 := by decide +kernel
theorem fo_acp {index : Nat} (hl : Cond.methodLink (fs_iy μ).cls index arraycopyName ∈ fs_tb) (hnat : Cond.native arraycopyName ∈ fs_tb) (hst : Cond.static arraycopyName ∈ fs_tb) (hi : Cond.initialized "java/lang/System" ∈ fs_tb) (hdp : 1 ≤ fs_dp μ) (hd : decode (fs_ic μ) pc = .ok (.invokestatic index, 3)) (h : fs_E g μ d u Q (pc + 3) K) : fs_E g μ d u Q pc (fi_acp K) := by
  intro ls st M hk p e R s m args below meth c H locs lsA C0 hS hW hL
  unfold fi_acp at hk
  split at hk
  · rename_i n dp b sp a t
    obtain ⟨ht, na, nb, ha, hb, ⟨h1, h2, h3⟩, h4, h5, hk⟩ := hk
    have hts := C0.2.2.2.2.2.2.1
    have hRe := C0.2.2.2.2.2.2.2.2.1
    have hd1 : 1 ≤ d := Nat.le_trans hdp C0.2.2.2.2.2.2.2.2.2.2.2
    have hK := C0.2.2.2.2.2.2.2.2.2.1.1
    have h8 := fs_cats (g := g) ht
    have hnw := fs_nw
    simp only [List.map_cons, fs_cv, fs_lt hW ha, fs_lt hW hb]
    refine fs_acp C0.1 C0.2.1 (C0.2.2.2.2.1.trans hL.1.1.symm) C0.2.2.2.2.2.1 (hts _ hl) (hts _ hnat) (hts _ hst) (hts _ hi) hK hW hS hb (n0 := na) (f := M.2.1 a) (hW.1 a _ (fs_wl_get ha)) ((hK.2 0 _ rfl).1 na (fun j => .int (M.2.1 a j))) (fun q => by cases q) (by show na ≤ (arrV _ _ _).slots.size; rw [arrV_size]; exact Nat.le_refl _) (fun j hj => by show (arrV _ _ _).slots[_]? = _; rw [arrV_read _ _ hj]) h1 h2 h3 h4 h5 (by rw [hRe]; exact hd1) (by rw [hRe]; show _ ≤ 64 * d; omega) hd (fun H1 locs1 hW1 hS1 => h ls t _ hk p e R s m args below meth c H1 locs1 lsA C0 hS1 hW1 hL)
  · exact hk.elim
theorem fo_acps {index i : Nat} {nm : String} {xs : List Int32} (hq : (nm, i, xs) ∈ fs_sa) (hl : Cond.methodLink (fs_iy μ).cls index arraycopyName ∈ fs_tb) (hnat : Cond.native arraycopyName ∈ fs_tb) (hst : Cond.static arraycopyName ∈ fs_tb) (hi : Cond.initialized "java/lang/System" ∈ fs_tb) (hdp : 1 ≤ fs_dp μ) (hd : decode (fs_ic μ) pc = .ok (.invokestatic index, 3)) (h : fs_E g μ d u Q (pc + 3) K) : fs_E g μ d u Q pc (fi_acps i xs K) := by
  intro ls st M hk p e R s m args below meth c H locs lsA C0 hS hW hL
  unfold fi_acps at hk
  split at hk
  · rename_i n dp b sp a t
    obtain ⟨ht, rfl, nb, hb, ⟨h1, h2, h3⟩, h4, h5, hk⟩ := hk
    have hts := C0.2.2.2.2.2.2.1
    have hRe := C0.2.2.2.2.2.2.2.2.1
    have hd1 : 1 ≤ d := Nat.le_trans hdp C0.2.2.2.2.2.2.2.2.2.2.2
    have hK := C0.2.2.2.2.2.2.2.2.2.1.1
    have h8 := fs_cats (g := g) ht
    have hnw := fs_nw
    obtain ⟨scr, hs1, hs2, hs3, hs4, -, hs5, hs7⟩ := ((C0.2.2.2.2.2.2.2.2.2.1.2.2.1 _ hq).2).kept hS.2.1
    simp only [List.map_cons, fs_cv, fs_ad_s, fs_lt hW hb]
    refine fs_acp C0.1 C0.2.1 (C0.2.2.2.2.1.trans hL.1.1.symm) C0.2.2.2.2.2.1 (hts _ hl) (hts _ hnat) (hts _ hst) (hts _ hi) hK hW hS hb (n0 := 4) (f := fun j => xs.getD j 0) hs1 hs2 hs3 hs4 hs5 h1 h2 h3 h4 h5 (by rw [hRe]; exact hd1) (by rw [hRe]; show _ ≤ 64 * d; omega) hd (fun H1 locs1 hW1 hS1 => h ls t _ hk p e R s m args below meth c H1 locs1 lsA C0 hS1 hW1 hL)
  · exact hk.elim
theorem fo_iushr (hd : decode (fs_ic μ) pc = .ok (.iushr, 1)) (h : fs_E g μ d u Q (pc + 1) K) : fs_E g μ d u Q pc (fi_bin (fun x y => (x.toUInt32 >>> (y.toUInt32 &&& Int32.toUInt32 31)).toInt32) K) := by
  intro ls st M hk p e R s m args below meth c H locs lsA C hS hW hL
  unfold fi_bin at hk
  split at hk
  · rename_i y x r
    exact lv_iushr C.1 C.2.1 hd rfl (h ls _ M hk p e R s m args below meth c H locs lsA C hS hW hL)
  · exact hk.elim
theorem fo_ldcw {index : Nat} {v : Int32} (hc : Cond.constant (fs_iy μ).cls index v ∈ fs_tb) (hd : decode (fs_ic μ) pc = .ok (.ldc_w index, 3)) (h : fs_E g μ d u Q (pc + 3) K) : fs_E g μ d u Q pc (fi_const v K) := by
  intro ls st M hk p e R s m args below meth c H locs lsA C hS hW hL
  exact lv_ldcw C.1 C.2.1 C.2.2.2.2.2.1 (C.2.2.2.2.2.2.1 _ hc) hd (h ls (.int v :: st) M hk p e R s m args below meth c H locs lsA C hS hW hL)
theorem fs_out {x : Int32} {n : Nat} (hn : n < 2 ^ 31) : (∃ j, j < n ∧ x = nI j) ∨ (x.toInt < 0 ∨ (n : Int) - 1 < x.toInt) := by
  by_cases h0 : x.toInt < 0
  · exact Or.inr (Or.inl h0)
  · by_cases h1 : (n : Int) - 1 < x.toInt
    · exact Or.inr (Or.inr h1)
    · refine Or.inl ⟨x.toInt.toNat, by omega, ?_⟩
      apply Int32.toInt_inj.mp
      rw [nI_toInt (by omega)]
      omega
theorem fs_outn {x : Int32} {n : Nat} (hn : n < 2 ^ 31) (h : x.toInt < 0 ∨ (n : Int) - 1 < x.toInt) : ∀ j, j < n → x ≠ nI j := by
  intro j hj e
  subst e
  rw [nI_toInt (by omega)] at h
  omega
theorem fo_tsw {n : Nat} {f : Nat → fs_P} {Kd : fs_P} {dflt : Int} {hi : Int} {offs : Array Int} {len : Nat} {tg : Nat → Nat} {td : Nat} (hn : n < 1000) (hhi : hi = (n : Int) - 1) (hd : decode (fs_ic μ) pc = .ok (.tableswitch dflt 0 hi offs, len)) (ho : ∀ j, j < n → ∃ off, offs[j]? = some off ∧ (pc : Int) + off = (tg j : Int)) (ht : (pc : Int) + dflt = (td : Int))
    (h : ∀ j, j < n → fs_E g μ d u Q (tg j) (f j)) (hdf : fs_E g μ d u Q td Kd) : fs_E g μ d u Q pc (fi_tsw n f Kd) := by
  subst hhi
  intro ls st M hk p e R s m args below meth c H locs lsA C hS hW hL
  unfold fi_tsw at hk
  split at hk
  · rename_i x t
    have hn' : n < 2 ^ 31 := Nat.lt_trans hn (by decide)
    rcases fs_out (x := x) hn' with ⟨j, hj, rfl⟩ | h0
    · obtain ⟨off, e1, e2⟩ := ho j hj
      have hti : (nI j).toInt = (j : Int) := nI_toInt (by omega)
      exact lv_tableIn C.1 C.2.1 hd (by rw [hti]; omega) (by rw [hti]; omega) (by rw [hti]; simpa using e1) e2 (h j hj ls t M (hk.1 j hj rfl) p e R s m args below meth c H locs lsA C hS hW hL)
    · exact lv_tableOut C.1 C.2.1 hd h0 ht (hdf ls t M (hk.2 (fs_outn hn' h0)) p e R s m args below meth c H locs lsA C hS hW hL)
  · exact hk.elim
theorem fo_lsw {f : Nat → fs_P} {Kd : fs_P} {dflt o0 o1 : Int} {len t0 t1 td : Nat} (hd : decode (fs_ic μ) pc = .ok (.lookupswitch dflt #[(0, o0), (1, o1)], len)) (h0 : (pc : Int) + o0 = (t0 : Int)) (h1 : (pc : Int) + o1 = (t1 : Int)) (ht : (pc : Int) + dflt = (td : Int))
    (k0 : fs_E g μ d u Q t0 (f 0)) (k1 : fs_E g μ d u Q t1 (f 1)) (hdf : fs_E g μ d u Q td Kd) : fs_E g μ d u Q pc (fi_tsw 2 f Kd) := by
  intro ls st M hk p e R s m args below meth c H locs lsA C hS hW hL
  unfold fi_tsw at hk
  split at hk
  · rename_i x t
    by_cases e0 : x = nI 0
    · subst e0
      exact lv_lookup C.1 C.2.1 hd (by simp) (off := o0) (by simp [Op.lookupswitch.offset, nI]) h0 (k0 ls t M (hk.1 0 (by omega) rfl) p e R s m args below meth c H locs lsA C hS hW hL)
    · by_cases e1 : x = nI 1
      · subst e1
        exact lv_lookup C.1 C.2.1 hd (by simp) (off := o1) (by simp [Op.lookupswitch.offset, nI]) h1 (k1 ls t M (hk.1 1 (by omega) rfl) p e R s m args below meth c H locs lsA C hS hW hL)
      · have n0 : x.toInt ≠ 0 := fun q => e0 (Int32.toInt_inj.mp (by rw [q]; rfl))
        have n1 : x.toInt ≠ 1 := fun q => e1 (Int32.toInt_inj.mp (by rw [q]; rfl))
        exact lv_lookup C.1 C.2.1 hd (by simp) (off := dflt) (by simp [Op.lookupswitch.offset, Ne.symm n0, Ne.symm n1, n0, n1]) ht (hdf ls t M (hk.2 (fun j hj => by rcases (show j = 0 ∨ j = 1 by omega) with rfl | rfl; exact e0; exact e1)) p e R s m args below meth c H locs lsA C hS hW hL)
  · exact hk.elim
end FO8
