/-! ===== THE START: the constants of the run, out of what the statement gives ===== -/
section ST1
abbrev st_q : Type := String × Nat × String × List Int32 × Nat
def st_val (o : String) (k : Nat) : Term := .field (.string o k) "java/lang/String" "value" "[B"
/-- what is asked of a text -/
def st_need (q : st_q) : List Cond :=
  [.exactly (.string q.1 q.2.1) "java/lang/String", .eq (.field (.string q.1 q.2.1) "java/lang/String" "coder" "B") (.int 0), .arrayOf (st_val q.1 q.2.1) .byte, .eq (.length (st_val q.1 q.2.1)) (.int (Int32.ofNat q.2.2.2.1.length))] ++
    (List.range q.2.2.2.1.length).map (fun j => .eq (.elem (st_val q.1 q.2.1) (.int (Int32.ofNat j))) (.int (q.2.2.2.1.getD j 0)))
/-- what is asked of a static row -/
def st_row (n : String) (xs : List Int32) : List Cond :=
  [.arrayOf (.static "FilmSchedule" n "[I") .int, .eq (.length (.static "FilmSchedule" n "[I")) (.int (Int32.ofNat 4))] ++ (List.range 4).map (fun j => .eq (.elem (.static "FilmSchedule" n "[I") (.int (Int32.ofNat j))) (.int (xs.getD j 0)))
def st_N1 : List Cond := [.eq (.static "java/lang/String" "COMPACT_STRINGS" "Z") (.int 1), .isRef (.static fs_PR "SIOOBE_FORMATTER" fs_BF)]
def st_N2 : List Cond := [.isRef (.static Bundle.tN "UNASSIGNED_STACK" Bundle.steD), .isRef (.static Bundle.tN "SUPPRESSED_SENTINEL" Bundle.listD)]
def st_N : List Cond := st_row "INITIAL_SETTINGS" [24, 100, 50, 4] ++ (st_N1 ++ (st_row "LEAST_SETTINGS" [1, 0, 0, 1] ++ (st_row "MOST_SETTINGS" [99, 9999, 100, 12] ++ (st_N2 ++ fs_sr.flatMap st_need))))
set_option maxRecDepth 100000 in
theorem st_Nin : st_N.Sublist (flatC (Jvm.Cond.and given_1 narrow_1)) := by decide +kernel
def st_T1 : List Cond := fs_mn.map (fun q => .methodLinkNest q.1 q.2.1 q.2.2.1 q.2.2.2)
def st_T2 : List Cond := fs_fn.map (fun q => .fieldLinkNest q.1 q.2.1 q.2.2.1 q.2.2.2.1 q.2.2.2.2.1 q.2.2.2.2.2)
def st_T3 : List Cond := fs_sr.map (fun q => .stringRef q.1 q.2.1 q.2.2.1)
def st_T4 : List Cond := fs_ex.map (fun y => .declares (Bundle.initS y))
theorem st_T1in : st_T1 = [315, 636, 656, 764, 787, 821, 893, 936].filterMap (fun i => lw_tbl[i]?) := by decide +kernel
theorem st_T2in : st_T2 = [132, 659, 661].filterMap (fun i => lw_tbl[i]?) := by decide +kernel
theorem st_T3in : st_T3 = [499, 569, 571, 572, 573, 574, 575, 576, 577, 578, 579, 603, 604, 613, 622, 631, 643, 652, 653, 654, 655, 663, 1033, 1336].filterMap (fun i => lw_tbl[i]?) := by decide +kernel
theorem st_T4in : st_T4 = [998, 1000, 1002].filterMap (fun i => lw_tbl[i]?) := by decide +kernel
theorem st_in {l : List Cond} {is : List Nat} (h : l = is.filterMap (fun i => lw_tbl[i]?)) {w : Cond} (hw : w ∈ l) : w ∈ lw_tbl := by
  rw [h] at hw
  obtain ⟨i, -, hi⟩ := List.mem_filterMap.mp hw
  exact List.mem_of_getElem? hi
variable {args : Array Value} {s : State} {A : Nat → Prop}
theorem st_rowK {n : String} {xs : List Int32} (hN : ∀ w ∈ st_row n xs, w.before args s = true) (hl : (Cond.laysStatic "FilmSchedule" n "[I").before args s = true) (hini : (Cond.initialized "FilmSchedule").before args s = true) (hA : ∀ a : Nat, a < s.heap.size → ¬ A a) :
    ∃ t : Nat, va_Z "FilmSchedule" n "[I" (.ref t) A s s.heap ∧ va_T .int t 4 (fun j => .int (xs.getD j 0)) A s s.heap := by
  obtain ⟨t, ht, hT⟩ := va_Tof (tm := .static "FilmSchedule" n "[I") (ty := .int) (N := 4) (f := fun j => .int (xs.getD j 0)) (A := A) (by decide) (hN _ (List.mem_append_left _ List.mem_cons_self)) (va_eqt (hN _ (List.mem_append_left _ (List.mem_cons_of_mem _ List.mem_cons_self)))) (fun j hj => va_eqt (hN _ (List.mem_append_right _ (List.mem_map.mpr ⟨j, List.mem_range.mpr hj, rfl⟩)))) hA
  exact ⟨t, va_Zof hl hini ht hA, hT⟩
theorem st_text {q : st_q} (hN : ∀ w ∈ st_need q, w.before args s = true) (hq : q.2.2.2.1.length < 2 ^ 31) (hA : ∀ a : Nat, a < s.heap.size → ¬ A a) :
    ∃ z : Nat × Nat, (Term.string q.1 q.2.1).eval args s none [] s = some (.ref z.1) ∧ va_O "java/lang/String" z.1 A s s.heap ∧ va_OF "java/lang/String" "coder" "B" (.int 0) z.1 A s s.heap ∧ va_OF "java/lang/String" "value" "[B" (.ref z.2) z.1 A s s.heap ∧ va_T .byte z.2 q.2.2.2.1.length (fun j => .int (q.2.2.2.1.getD j 0)) A s s.heap := by
  have h0 : (Cond.exactly (.string q.1 q.2.1) "java/lang/String").before args s = true := hN _ (List.mem_append_left _ List.mem_cons_self)
  have h1 : (Cond.eq (.field (.string q.1 q.2.1) "java/lang/String" "coder" "B") (.int 0)).before args s = true := hN _ (List.mem_append_left _ (List.mem_cons_of_mem _ List.mem_cons_self))
  have h2 : (Cond.arrayOf (st_val q.1 q.2.1) .byte).before args s = true := hN _ (List.mem_append_left _ (List.mem_cons_of_mem _ (List.mem_cons_of_mem _ List.mem_cons_self)))
  have h3 : (Cond.eq (.length (st_val q.1 q.2.1)) (.int (Int32.ofNat q.2.2.2.1.length))).before args s = true := hN _ (List.mem_append_left _ (List.mem_cons_of_mem _ (List.mem_cons_of_mem _ (List.mem_cons_of_mem _ List.mem_cons_self))))
  obtain ⟨a, c, cA, kA, q1, q2, q3, q4, q5, q6, -⟩ := Cond.exactly_spec (args := args) (first := s) (o := none) (s := s) (idx := []) (t := .string q.1 q.2.1) (cls := "java/lang/String") h0
  obtain ⟨t, ht, hT⟩ := va_Tof (tm := st_val q.1 q.2.1) (ty := .byte) (f := fun j => .int (q.2.2.2.1.getD j 0)) (A := A) hq h2 (va_eqt h3) (fun j hj => va_eqt (hN _ (List.mem_append_right _ (List.mem_map.mpr ⟨j, List.mem_range.mpr hj, rfl⟩)))) hA
  exact ⟨(a, t), q1, ⟨cA, q3, q5, by rw [q6]; exact q2, hA a (Array.getElem?_eq_some_iff.mp q3).1⟩, vk_OFof q1 (va_eqt h1) hA, vk_OFof q1 ht hA, hT⟩
theorem st_arr {ty : FieldType} (h : (Cond.arrayClass ty).before args s = true) : ∃ cA : ClassId, ArrOfT s cA ty ∧ s.vm.findClass ("[" ++ ty.toString) = some cA := by
  obtain ⟨cA, kA, comp, h1, h2, h3⟩ := Cond.arrayClass_spec h
  exact ⟨cA, fun n z => ⟨fun k h => (by cases h), kA, h2, comp, h3⟩, h1⟩
theorem st_cls (hts : ∀ w ∈ lw_tbl, w.before args s = true) : ∀ k : Nat, ∃ z : ClassId × (Nat → Nat), ∀ q : vw_C, vwCl[k]? = some q → u_Kn s q.1 q.2.1 q.2.2 z.1 z.2 := by
  have ht : ∀ w ∈ fs_tb, w.before args s = true := fun w h => hts w (List.mem_filter.mp h).1
  have key : ∀ {C : String} {T : u_T} {N i : Nat}, (∀ w ∈ u_ws C T N, w ∈ fs_tb) → lw_tbl[i]? = some (Cond.instantiable C N) → ∃ z : ClassId × (Nat → Nat), u_Kn s C T N z.1 z.2 := by
    intro C T N i h1 h2
    obtain ⟨cC, iS, h⟩ := u_known (n := N) ht h1 (hts _ (List.mem_of_getElem? h2))
    exact ⟨(cC, iS), h⟩
  intro k
  match k with
  | 0 => obtain ⟨z, hz⟩ := key (i := 218) lay_X0 (by decide +kernel); exact ⟨z, fun q hq => by cases hq; exact hz⟩
  | 1 => obtain ⟨z, hz⟩ := key (i := 314) lay_X1 (by decide +kernel); exact ⟨z, fun q hq => by cases hq; exact hz⟩
  | 2 => obtain ⟨z, hz⟩ := key (i := 252) lay_X2 (by decide +kernel); exact ⟨z, fun q hq => by cases hq; exact hz⟩
  | 3 => obtain ⟨z, hz⟩ := key (i := 355) lay_X3 (by decide +kernel); exact ⟨z, fun q hq => by cases hq; exact hz⟩
  | 4 => obtain ⟨z, hz⟩ := key (i := 120) lay_X4 (by decide +kernel); exact ⟨z, fun q hq => by cases hq; exact hz⟩
  | 5 => obtain ⟨z, hz⟩ := key (i := 328) lay_X5 (by decide +kernel); exact ⟨z, fun q hq => by cases hq; exact hz⟩
  | 6 => obtain ⟨z, hz⟩ := key (i := 262) lay_X6 (by decide +kernel); exact ⟨z, fun q hq => by cases hq; exact hz⟩
  | 7 => obtain ⟨z, hz⟩ := key (i := 112) lay_X8 (by decide +kernel); exact ⟨z, fun q hq => by cases hq; exact hz⟩
  | 8 => obtain ⟨z, hz⟩ := key (i := 1197) lay_X9 (by decide +kernel); exact ⟨z, fun q hq => by cases hq; exact hz⟩
  | _ + 9 => exact ⟨(0, fun _ => 0), fun q hq => by simp [vwCl] at hq⟩
/-- the places of what was there before -/
def st_s (t1 t2 t3 b fm : Nat) (ad : Nat → Nat × Nat) (k : Nat) : Nat := if k = 1 then t1 else if k = 2 then t2 else if k = 3 then t3 else if k = 50 then b else if k = 51 then fm else if k < 200 then (ad (k - 100)).1 else (ad (k - 200)).2
theorem st_s1 {t1 t2 t3 b fm : Nat} {ad : Nat → Nat × Nat} {k : Nat} (h : k < 24) : st_s t1 t2 t3 b fm ad (100 + k) = (ad k).1 := by
  unfold st_s
  rw [if_neg (by omega), if_neg (by omega), if_neg (by omega), if_neg (by omega), if_neg (by omega), if_pos (by omega), Nat.add_sub_cancel_left]
theorem st_s2 {t1 t2 t3 b fm : Nat} {ad : Nat → Nat × Nat} {k : Nat} : st_s t1 t2 t3 b fm ad (200 + k) = (ad k).2 := by
  unfold st_s
  rw [if_neg (by omega), if_neg (by omega), if_neg (by omega), if_neg (by omega), if_neg (by omega), if_neg (by omega), Nat.add_sub_cancel_left]
def st_t (ci cz cb cj : ClassId) (ty : FieldType) : ClassId := match ty with
  | .int => ci
  | .boolean => cz
  | .byte => cb
  | _ => cj
theorem st_sr_len : ∀ q ∈ fs_sr, q.2.2.2.1.length < 2 ^ 31 := by decide +kernel
theorem st_sr_r : fs_sr.map (fun q => q.2.2.2.2) = List.range 24 := by decide +kernel
theorem st_sr_ix : ∀ q ∈ fs_sr, q.2.2.2.2 < 24 ∧ fs_sr[q.2.2.2.2]? = some q := by
  intro q hq
  obtain ⟨k, hk⟩ := List.getElem?_of_mem hq
  have h : (fs_sr.map (fun q => q.2.2.2.2))[k]? = some q.2.2.2.2 := by rw [List.getElem?_map, hk]; rfl
  rw [st_sr_r, List.getElem?_eq_some_iff] at h
  obtain ⟨h1, h2⟩ := h
  rw [List.getElem_range] at h2
  rw [List.length_range] at h1
  rw [← h2]
  exact ⟨h1, hk⟩
end ST1
