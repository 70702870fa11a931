/-! ===== THE START: the frame's constant holds there ===== -/
section ST2
variable {args : Array Value} {s : State}
set_option maxHeartbeats 4000000 in
theorem st_K {b L : Nat} {xs : Nat → Int32} (l : Launch) (hts : ∀ w ∈ lw_tbl, w.before args s = true) (hgv : (Jvm.Cond.and given_1 narrow_1).before args s = true) (hX : va_X b L xs s s.heap) (hbl : b < s.heap.size) :
    ∃ g : fs_G, g.1 = l ∧ fs_B g = s.heap.size ∧ fs_s g 50 = b ∧ fs_XL g = L ∧ fs_K g s := by
  have hA : ∀ a : Nat, a < s.heap.size → ¬ (fun q : Nat => s.heap.size ≤ q) a := fun a h => Nat.not_le.mpr h
  have hs := flat_of_before _ hgv
  have hN : ∀ w ∈ st_N, w.before args s = true := fun w h => hs w (st_Nin.subset h)
  have n1 : ∀ w ∈ st_row "INITIAL_SETTINGS" [24, 100, 50, 4], w.before args s = true := fun w h => hN w (List.mem_append_left _ h)
  have n2 : ∀ w ∈ st_N1, w.before args s = true := fun w h => hN w (List.mem_append_right _ (List.mem_append_left _ h))
  have n3 : ∀ w ∈ st_row "LEAST_SETTINGS" [1, 0, 0, 1], w.before args s = true := fun w h => hN w (List.mem_append_right _ (List.mem_append_right _ (List.mem_append_left _ h)))
  have n4 : ∀ w ∈ st_row "MOST_SETTINGS" [99, 9999, 100, 12], w.before args s = true := fun w h => hN w (List.mem_append_right _ (List.mem_append_right _ (List.mem_append_right _ (List.mem_append_left _ h))))
  have n5 : ∀ w ∈ st_N2, w.before args s = true := fun w h => hN w (List.mem_append_right _ (List.mem_append_right _ (List.mem_append_right _ (List.mem_append_right _ (List.mem_append_left _ h)))))
  have n6 : ∀ q ∈ fs_sr, ∀ w ∈ st_need q, w.before args s = true := fun q hq w h => hN w (List.mem_append_right _ (List.mem_append_right _ (List.mem_append_right _ (List.mem_append_right _ (List.mem_append_right _ (List.mem_flatMap.mpr ⟨q, hq, h⟩))))))
  have iF : (Cond.initialized "FilmSchedule").before args s = true := hts _ (List.mem_of_getElem? (i := 89) (by decide +kernel))
  have iT : (Cond.initialized Bundle.tN).before args s = true := hts _ (List.mem_of_getElem? (i := 105) (by decide +kernel))
  obtain ⟨t1, z1, r1⟩ := st_rowK n1 (hts _ (List.mem_of_getElem? (i := 133) (by decide +kernel))) iF hA
  obtain ⟨t2, z2, r2⟩ := st_rowK n3 (hts _ (List.mem_of_getElem? (i := 660) (by decide +kernel))) iF hA
  obtain ⟨t3, z3, r3⟩ := st_rowK n4 (hts _ (List.mem_of_getElem? (i := 662) (by decide +kernel))) iF hA
  have kC : va_Z "java/lang/String" "COMPACT_STRINGS" "Z" (.int 1) (fun q : Nat => s.heap.size ≤ q) s s.heap := va_Zof (hts _ (List.mem_of_getElem? (i := 513) (by decide +kernel))) (hts _ (List.mem_of_getElem? (i := 101) (by decide +kernel))) (va_eqi (n2 _ List.mem_cons_self)) hA
  have kU : vx_Zq Bundle.tN "UNASSIGNED_STACK" Bundle.steD (fun q : Nat => s.heap.size ≤ q) s s.heap := vx_Zqof (hts _ (List.mem_of_getElem? (i := 1021) (by decide +kernel))) iT (n5 _ List.mem_cons_self) hA
  have kP : vx_Zq Bundle.tN "SUPPRESSED_SENTINEL" Bundle.listD (fun q : Nat => s.heap.size ≤ q) s s.heap := vx_Zqof (hts _ (List.mem_of_getElem? (i := 1023) (by decide +kernel))) iT (n5 _ (List.mem_cons_of_mem _ List.mem_cons_self)) hA
  obtain ⟨fm, kF⟩ : ∃ fm : Nat, va_Z fs_PR "SIOOBE_FORMATTER" fs_BF .null (fun q : Nat => s.heap.size ≤ q) s s.heap ∨ va_Z fs_PR "SIOOBE_FORMATTER" fs_BF (.ref fm) (fun q : Nat => s.heap.size ≤ q) s s.heap := by
    rcases va_Zqof (A := fun q : Nat => s.heap.size ≤ q) (hts _ (List.mem_of_getElem? (i := 529) (by decide +kernel))) (hts _ (List.mem_of_getElem? (i := 103) (by decide +kernel))) (n2 _ (List.mem_cons_of_mem _ List.mem_cons_self)) hA with h | ⟨t, h⟩
    · exact ⟨0, Or.inl h⟩
    · exact ⟨t, Or.inr h⟩
  obtain ⟨ad, had⟩ : ∃ ad : Nat → Nat × Nat, ∀ q ∈ fs_sr, (Term.string q.1 q.2.1).eval args s none [] s = some (.ref (ad q.2.2.2.2).1) ∧ va_O "java/lang/String" (ad q.2.2.2.2).1 (fun q : Nat => s.heap.size ≤ q) s s.heap ∧ va_OF "java/lang/String" "coder" "B" (.int 0) (ad q.2.2.2.2).1 (fun q : Nat => s.heap.size ≤ q) s s.heap ∧ va_OF "java/lang/String" "value" "[B" (.ref (ad q.2.2.2.2).2) (ad q.2.2.2.2).1 (fun q : Nat => s.heap.size ≤ q) s s.heap ∧ va_T .byte (ad q.2.2.2.2).2 q.2.2.2.1.length (fun j => .int (q.2.2.2.1.getD j 0)) (fun q : Nat => s.heap.size ≤ q) s s.heap := by
    have h0 : ∀ k : Nat, ∃ z : Nat × Nat, ∀ q : st_q, fs_sr[k]? = some q → (Term.string q.1 q.2.1).eval args s none [] s = some (.ref z.1) ∧ va_O "java/lang/String" z.1 (fun q : Nat => s.heap.size ≤ q) s s.heap ∧ va_OF "java/lang/String" "coder" "B" (.int 0) z.1 (fun q : Nat => s.heap.size ≤ q) s s.heap ∧ va_OF "java/lang/String" "value" "[B" (.ref z.2) z.1 (fun q : Nat => s.heap.size ≤ q) s s.heap ∧ va_T .byte z.2 q.2.2.2.1.length (fun j => .int (q.2.2.2.1.getD j 0)) (fun q : Nat => s.heap.size ≤ q) s s.heap := by
      intro k
      cases hk : fs_sr[k]? with
      | none => exact ⟨(0, 0), fun q h => by cases h⟩
      | some q0 =>
        have hm := List.mem_of_getElem? hk
        obtain ⟨z, hz⟩ := st_text (A := fun q : Nat => s.heap.size ≤ q) (n6 q0 hm) (st_sr_len q0 hm) hA
        exact ⟨z, fun q h => by cases h; exact hz⟩
    obtain ⟨ad, had⟩ := Classical.axiomOfChoice h0
    exact ⟨ad, fun q hq => had q.2.2.2.2 q (st_sr_ix q hq).2⟩
  obtain ⟨dz, hdz⟩ := Classical.axiomOfChoice (st_cls hts)
  obtain ⟨ci, ai, fi⟩ := st_arr (ty := .int) (hts _ (List.mem_of_getElem? (i := 215) (by decide +kernel)))
  obtain ⟨cz, az, fz⟩ := st_arr (ty := .boolean) (hts _ (List.mem_of_getElem? (i := 216) (by decide +kernel)))
  obtain ⟨cb, ab, fb⟩ := st_arr (ty := .byte) (hts _ (List.mem_of_getElem? (i := 214) (by decide +kernel)))
  obtain ⟨cj, aj, fj⟩ := st_arr (ty := .long) (hts _ (List.mem_of_getElem? (i := 1734) (by decide +kernel)))
  refine ⟨(l, s.heap.size, st_s t1 t2 t3 b fm ad, fun k => (dz k).1, fun k => (dz k).2, st_t ci cz cb cj, L, xs), rfl, rfl, rfl, rfl, ⟨fun k q hq => hdz k q hq, ?_⟩, ⟨?_, ?_, ?_, ?_, ?_⟩, ⟨?_, ?_, kC, kU, kP, kF, ?_⟩⟩
  · intro k q hq
    match k, hq with
    | 0, hq => cases hq; exact ⟨ai, fi⟩
    | 1, hq => cases hq; exact ⟨az, fz⟩
    | 2, hq => cases hq; exact ⟨ab, fb⟩
    | 3, hq => cases hq; exact ⟨aj, fj⟩
    | _ + 4, hq => simp [fs_ty] at hq
  · exact fun q hq => va_Nw.of rfl (hts _ (st_in st_T1in (List.mem_map.mpr ⟨q, hq, rfl⟩)))
  · exact fun q hq => va_Nw.of rfl (hts _ (st_in st_T2in (List.mem_map.mpr ⟨q, hq, rfl⟩)))
  · intro q hq
    show vk_R q.1 q.2.1 q.2.2.1 (st_s t1 t2 t3 b fm ad (100 + q.2.2.2.2)) s
    rw [st_s1 (st_sr_ix q hq).1]
    exact vk_R.of (A := args) (hts _ (st_in st_T3in (List.mem_map.mpr ⟨q, hq, rfl⟩))) (had q hq).1
  · exact va_Nw.of rfl (hts _ (List.mem_of_getElem? (i := 996) (by decide +kernel)))
  · exact fun q hq => va_Nw.of rfl (hts _ (st_in st_T4in (List.mem_map.mpr ⟨q, hq, rfl⟩)))
  · exact List.forall_mem_cons.mpr ⟨⟨z1, r1⟩, List.forall_mem_cons.mpr ⟨⟨z2, r2⟩, List.forall_mem_cons.mpr ⟨⟨z3, r3⟩, fun _ h => absurd h List.not_mem_nil⟩⟩⟩
  · intro q hq
    show va_O "java/lang/String" (st_s t1 t2 t3 b fm ad (100 + q.2.2.2.2)) (fun q : Nat => s.heap.size ≤ q) s s.heap ∧ va_OF "java/lang/String" "coder" "B" (.int 0) (st_s t1 t2 t3 b fm ad (100 + q.2.2.2.2)) (fun q : Nat => s.heap.size ≤ q) s s.heap ∧ va_OF "java/lang/String" "value" "[B" (.ref (st_s t1 t2 t3 b fm ad (200 + q.2.2.2.2))) (st_s t1 t2 t3 b fm ad (100 + q.2.2.2.2)) (fun q : Nat => s.heap.size ≤ q) s s.heap ∧ va_T .byte (st_s t1 t2 t3 b fm ad (200 + q.2.2.2.2)) q.2.2.2.1.length (fun j => .int (q.2.2.2.1.getD j 0)) (fun q : Nat => s.heap.size ≤ q) s s.heap
    rw [st_s1 (st_sr_ix q hq).1, st_s2]
    exact (had q hq).2
  · obtain ⟨scr, h1, h2, h3, h4, h5⟩ := hX
    exact ⟨scr, h1, h2, h3, by rw [h4]; exact Nat.le_refl _, by rw [h4] <;> rfl, h5, hA b hbl⟩
end ST2
