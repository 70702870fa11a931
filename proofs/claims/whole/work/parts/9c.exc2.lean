/-! ===== the methods of the class that throw ===== -/
section FX2
variable {g : fs_G} {d : Nat} {S : List fs_Sh} {fr : Bool} {σ : Nat → Nat → Int32} {τ : Nat → Nat → Int64} {M : fs_M}
/-- the heap grew, all that was there stands -/
theorem fs_W.grow {H H1 : Heap} (h : fs_W g M H) (hz : H.size ≤ H1.size) (hk : ∀ q : Nat, q < H.size → H1[q]? = H[q]?) : fs_W g ((M.1.1, false), M.2) H1 := by
  refine ⟨?_, h.2.1, fun z => by cases z⟩
  have h1 : va_P (fs_D g) vwCl (fs_wl g M) H1 := h.1.kept (fun k x hx => hk x.1 (h.1 k x hx).lt)
  exact h1
theorem fx_require (hl : g.1.stackTraces = false) {x y : Int32} (hb : x < 0 ∨ ¬ x < y) (hd : 8 ≤ d) : fx_T g (fx_i 8 m_X8_requireIndex) d [.int x, .int y] M ((M.1.1, false), M.2) := by
  have fin : fx_R g (fx_i 8 m_X8_requireIndex) d 9 [.int x, .int y] [] M ((M.1.1, false), M.2) := by
    intro p e R s m args below meth c H locs lsA C hT hS hW hL
    have hRe := C.2.2.2.2.2.2.2.2.1
    have hK := C.2.2.2.2.2.2.2.2.2.1
    have hts := C.2.2.2.2.2.2.1
    refine vx_throwSW (Qc := fx_N) (XC := fx_X g ((M.1.1, false), M.2)) (A := fs_A g) (free := fs_A g) (own := "FilmSchedule") (cls := fs_IO) (text := "there is no such index") (names := ["java/lang/RuntimeException", "java/lang/Exception"]) (ik := 272) (is := 274) (ic := 276) (sa := fs_s g 122) (rest := []) C.1 C.2.1 hl C.2.2.2.2.2.1 (by decide) (by decide) (hts _ fx_w4) (hts _ fx_w5) (hK.2.1.2.2.1 _ sr_22) (fx_at hts hK) fx_w3 hK.2.2.2.2.2.1 hK.2.2.2.2.2.2.1 hS (hL.1.1.trans C.2.2.2.2.1.symm) dX8_requireIndex_9 dX8_requireIndex_12 dX8_requireIndex_13 dX8_requireIndex_16 dX8_requireIndex_19 (fun x hx => (hT x hx).elim) (by rw [hRe]; show 2 + 3 < d; omega) (by rw [hRe]; show 0 + (13 * (2 + 1) + 43) ≤ 64 * d; omega) (by rw [hRe]; exact Nat.le_refl _) (by rw [hRe]; exact Nat.le_refl _) C.2.2.2.1 (fun t _ hz hk => ⟨rfl, hW.grow hz hk, Nat.le_trans hS.1 hz, fun q h1 h2 => by rw [hk q (Nat.lt_of_lt_of_le h1 hS.1)]; exact hS.2.1 q h1 h2⟩) hS.2.2 (Nat.le_refl _) (Nat.le_refl _)
  refine fx_enter (by decide) (by simp [fs_ok]) (Nat.le_of_ble_eq_true rfl) hd ?_
  refine fx_iload_n dX8_requireIndex_0 rfl rfl ?_
  refine fx_if_lt (tgt := 9) dX8_requireIndex_1 rfl (fun _ => fin) (fun z => ?_)
  refine fx_iload_n dX8_requireIndex_4 rfl rfl ?_
  refine fx_iload_n dX8_requireIndex_5 rfl rfl ?_
  refine fx_icmp_lt (tgt := 20) dX8_requireIndex_6 rfl (fun z2 => ?_) (fun _ => fin)
  rcases hb with w | w
  · exact absurd w z
  · exact absurd z2 w
theorem x_locationProperty (hX : shX S) (hl : g.1.stackTraces = false) {x : Int32} (z : Int32) (hb : x < 0 ∨ ¬ x < σ 2 0) (hd : 9 ≤ d) : fx_T g (fx_i 9 m_X8_locationProperty) d [.ref 0, .int x, .int z] ((S, fr), σ, τ) ((S, false), σ, τ) := by
  refine fx_enter (by decide) (by simp [fs_ok]) (Nat.le_of_ble_eq_true rfl) hd ?_
  refine fx_iload_n dX8_locationProperty_0 rfl rfl ?_
  refine fx_aload_n dX8_locationProperty_1 rfl rfl ?_
  refine fx_getf (j := 3) (v := .ref 2) cl_X8 (Nat.le_of_ble_eq_true rfl) rfl q_420 dX8_locationProperty_2 hX.1 (fs_fl_get (r := some (some 2)) rfl) ?_
  refine fx_getf (j := 0) (v := .int (σ 2 0)) cl_X4 (Nat.le_of_ble_eq_true rfl) rfl q_139 dX8_locationProperty_5 hX.2.2.1.1 (fs_fl_get (r := none) rfl) ?_
  exact fx_thr (As := [.int x, .int (σ 2 0)]) (rest := []) (μ' := fx_i 8 m_X8_requireIndex) (d' := d - 1) ms_X8_requireIndex q_991 (by omega) rfl ⟨Nat.le_refl _, Nat.le_refl _⟩ dX8_locationProperty_8 (fx_require hl hb (by omega)) (Nat.zero_le _)
theorem x_feeOf (hX : shX S) (hl : g.1.stackTraces = false) {x : Int32} (hb : x < 0 ∨ ¬ x < σ 2 4) (hd : 9 ≤ d) : fx_T g (fx_i 9 m_X8_feeOf) d [.ref 0, .int x] ((S, fr), σ, τ) ((S, false), σ, τ) := by
  refine fx_enter (by decide) (by simp [fs_ok]) (Nat.le_of_ble_eq_true rfl) hd ?_
  refine fx_iload_n dX8_feeOf_0 rfl rfl ?_
  refine fx_aload_n dX8_feeOf_1 rfl rfl ?_
  refine fx_getf (j := 3) (v := .ref 2) cl_X8 (Nat.le_of_ble_eq_true rfl) rfl q_420 dX8_feeOf_2 hX.1 (fs_fl_get (r := some (some 2)) rfl) ?_
  refine fx_getf (j := 4) (v := .int (σ 2 4)) cl_X4 (Nat.le_of_ble_eq_true rfl) rfl q_150 dX8_feeOf_5 hX.2.2.1.1 (fs_fl_get (r := none) rfl) ?_
  exact fx_thr (As := [.int x, .int (σ 2 4)]) (rest := []) (μ' := fx_i 8 m_X8_requireIndex) (d' := d - 1) ms_X8_requireIndex q_991 (by omega) rfl ⟨Nat.le_refl _, Nat.le_refl _⟩ dX8_feeOf_8 (fx_require hl hb (by omega)) (Nat.zero_le _)
theorem x_sceneProperty (hX : shX S) (hl : g.1.stackTraces = false) {x : Int32} (z : Int32) (hb : x < 0 ∨ ¬ x < σ 2 7) (hd : 9 ≤ d) : fx_T g (fx_i 9 m_X8_sceneProperty) d [.ref 0, .int x, .int z] ((S, fr), σ, τ) ((S, false), σ, τ) := by
  refine fx_enter (by decide) (by simp [fs_ok]) (Nat.le_of_ble_eq_true rfl) hd ?_
  refine fx_iload_n dX8_sceneProperty_0 rfl rfl ?_
  refine fx_aload_n dX8_sceneProperty_1 rfl rfl ?_
  refine fx_getf (j := 3) (v := .ref 2) cl_X8 (Nat.le_of_ble_eq_true rfl) rfl q_420 dX8_sceneProperty_2 hX.1 (fs_fl_get (r := some (some 2)) rfl) ?_
  refine fx_getf (j := 7) (v := .int (σ 2 7)) cl_X4 (Nat.le_of_ble_eq_true rfl) rfl q_161 dX8_sceneProperty_5 hX.2.2.1.1 (fs_fl_get (r := none) rfl) ?_
  exact fx_thr (As := [.int x, .int (σ 2 7)]) (rest := []) (μ' := fx_i 8 m_X8_requireIndex) (d' := d - 1) ms_X8_requireIndex q_991 (by omega) rfl ⟨Nat.le_refl _, Nat.le_refl _⟩ dX8_sceneProperty_8 (fx_require hl hb (by omega)) (Nat.zero_le _)
theorem x_dayOf (hX : shX S) (hl : g.1.stackTraces = false) {x : Int32} (hb : x < 0 ∨ ¬ x < σ 2 7) (hd : 9 ≤ d) : fx_T g (fx_i 9 m_X8_dayOf) d [.ref 0, .int x] ((S, fr), σ, τ) ((S, false), σ, τ) := by
  refine fx_enter (by decide) (by simp [fs_ok]) (Nat.le_of_ble_eq_true rfl) hd ?_
  refine fx_iload_n dX8_dayOf_0 rfl rfl ?_
  refine fx_aload_n dX8_dayOf_1 rfl rfl ?_
  refine fx_getf (j := 3) (v := .ref 2) cl_X8 (Nat.le_of_ble_eq_true rfl) rfl q_420 dX8_dayOf_2 hX.1 (fs_fl_get (r := some (some 2)) rfl) ?_
  refine fx_getf (j := 7) (v := .int (σ 2 7)) cl_X4 (Nat.le_of_ble_eq_true rfl) rfl q_161 dX8_dayOf_5 hX.2.2.1.1 (fs_fl_get (r := none) rfl) ?_
  exact fx_thr (As := [.int x, .int (σ 2 7)]) (rest := []) (μ' := fx_i 8 m_X8_requireIndex) (d' := d - 1) ms_X8_requireIndex q_991 (by omega) rfl ⟨Nat.le_refl _, Nat.le_refl _⟩ dX8_dayOf_8 (fx_require hl hb (by omega)) (Nat.zero_le _)
theorem x_scenesOn (hl : g.1.stackTraces = false) {x : Int32} (hb : x < 0 ∨ ¬ x < 12) (hd : 9 ≤ d) : fx_T g (fx_i 9 m_X8_scenesOn) d [.ref 0, .int x] ((S, fr), σ, τ) ((S, false), σ, τ) := by
  refine fx_enter (by decide) (by simp [fs_ok]) (Nat.le_of_ble_eq_true rfl) hd ?_
  refine fx_iload_n dX8_scenesOn_0 rfl rfl ?_
  refine fx_bipush (v := 12) dX8_scenesOn_1 (by decide) ?_
  exact fx_thr (As := [.int x, .int 12]) (rest := []) (μ' := fx_i 8 m_X8_requireIndex) (d' := d - 1) ms_X8_requireIndex q_991 (by omega) rfl ⟨Nat.le_refl _, Nat.le_refl _⟩ dX8_scenesOn_3 (fx_require hl hb (by omega)) (Nat.zero_le _)
theorem x_locationOn (hl : g.1.stackTraces = false) {x : Int32} (hb : x < 0 ∨ ¬ x < 12) (hd : 9 ≤ d) : fx_T g (fx_i 9 m_X8_locationOn) d [.ref 0, .int x] ((S, fr), σ, τ) ((S, false), σ, τ) := by
  refine fx_enter (by decide) (by simp [fs_ok]) (Nat.le_of_ble_eq_true rfl) hd ?_
  refine fx_iload_n dX8_locationOn_0 rfl rfl ?_
  refine fx_bipush (v := 12) dX8_locationOn_1 (by decide) ?_
  exact fx_thr (As := [.int x, .int 12]) (rest := []) (μ' := fx_i 8 m_X8_requireIndex) (d' := d - 1) ms_X8_requireIndex q_991 (by omega) rfl ⟨Nat.le_refl _, Nat.le_refl _⟩ dX8_locationOn_3 (fx_require hl hb (by omega)) (Nat.zero_le _)
theorem x_isNight (hl : g.1.stackTraces = false) {x : Int32} (hb : x < 0 ∨ ¬ x < 12) (hd : 9 ≤ d) : fx_T g (fx_i 9 m_X8_isNight) d [.ref 0, .int x] ((S, fr), σ, τ) ((S, false), σ, τ) := by
  refine fx_enter (by decide) (by simp [fs_ok]) (Nat.le_of_ble_eq_true rfl) hd ?_
  refine fx_iload_n dX8_isNight_0 rfl rfl ?_
  refine fx_bipush (v := 12) dX8_isNight_1 (by decide) ?_
  exact fx_thr (As := [.int x, .int 12]) (rest := []) (μ' := fx_i 8 m_X8_requireIndex) (d' := d - 1) ms_X8_requireIndex q_991 (by omega) rfl ⟨Nat.le_refl _, Nat.le_refl _⟩ dX8_isNight_3 (fx_require hl hb (by omega)) (Nat.zero_le _)
theorem x_lengthOn (hl : g.1.stackTraces = false) {x : Int32} (hb : x < 0 ∨ ¬ x < 12) (hd : 9 ≤ d) : fx_T g (fx_i 9 m_X8_lengthOn) d [.ref 0, .int x] ((S, fr), σ, τ) ((S, false), σ, τ) := by
  refine fx_enter (by decide) (by simp [fs_ok]) (Nat.le_of_ble_eq_true rfl) hd ?_
  refine fx_iload_n dX8_lengthOn_0 rfl rfl ?_
  refine fx_bipush (v := 12) dX8_lengthOn_1 (by decide) ?_
  exact fx_thr (As := [.int x, .int 12]) (rest := []) (μ' := fx_i 8 m_X8_requireIndex) (d' := d - 1) ms_X8_requireIndex q_991 (by omega) rfl ⟨Nat.le_refl _, Nat.le_refl _⟩ dX8_lengthOn_3 (fx_require hl hb (by omega)) (Nat.zero_le _)
theorem x_castOn (hl : g.1.stackTraces = false) {x : Int32} (hb : x < 0 ∨ ¬ x < 12) (hd : 9 ≤ d) : fx_T g (fx_i 9 m_X8_castOn) d [.ref 0, .int x] ((S, fr), σ, τ) ((S, false), σ, τ) := by
  refine fx_enter (by decide) (by simp [fs_ok]) (Nat.le_of_ble_eq_true rfl) hd ?_
  refine fx_iload_n dX8_castOn_0 rfl rfl ?_
  refine fx_bipush (v := 12) dX8_castOn_1 (by decide) ?_
  exact fx_thr (As := [.int x, .int 12]) (rest := []) (μ' := fx_i 8 m_X8_requireIndex) (d' := d - 1) ms_X8_requireIndex q_991 (by omega) rfl ⟨Nat.le_refl _, Nat.le_refl _⟩ dX8_castOn_3 (fx_require hl hb (by omega)) (Nat.zero_le _)
theorem x_statusOf (hX : shX S) (hl : g.1.stackTraces = false) {x : Int32} (z : Int32) (hb : x < 0 ∨ ¬ x < σ 2 4) (hd : 9 ≤ d) : fx_T g (fx_i 9 m_X8_statusOf) d [.ref 0, .int x, .int z] ((S, fr), σ, τ) ((S, false), σ, τ) := by
  refine fx_enter (by decide) (by simp [fs_ok]) (Nat.le_of_ble_eq_true rfl) hd ?_
  refine fx_iload_n dX8_statusOf_0 rfl rfl ?_
  refine fx_aload_n dX8_statusOf_1 rfl rfl ?_
  refine fx_getf (j := 3) (v := .ref 2) cl_X8 (Nat.le_of_ble_eq_true rfl) rfl q_420 dX8_statusOf_2 hX.1 (fs_fl_get (r := some (some 2)) rfl) ?_
  refine fx_getf (j := 4) (v := .int (σ 2 4)) cl_X4 (Nat.le_of_ble_eq_true rfl) rfl q_150 dX8_statusOf_5 hX.2.2.1.1 (fs_fl_get (r := none) rfl) ?_
  exact fx_thr (As := [.int x, .int (σ 2 4)]) (rest := []) (μ' := fx_i 8 m_X8_requireIndex) (d' := d - 1) ms_X8_requireIndex q_991 (by omega) rfl ⟨Nat.le_refl _, Nat.le_refl _⟩ dX8_statusOf_8 (fx_require hl hb (by omega)) (Nat.zero_le _)
theorem x_statusOf2 (hX : shX S) (hl : g.1.stackTraces = false) {x z : Int32} (hb : ¬ x < 0 ∧ x < σ 2 4) (hz : z < 0 ∨ ¬ z < 12) (hd : 9 ≤ d) : fx_T g (fx_i 9 m_X8_statusOf) d [.ref 0, .int x, .int z] ((S, fr), σ, τ) ((S, false), σ, τ) := by
  have hc : fs_Ct g m_X8_requireIndex [.int x, .int (σ 2 4)] ((S, fr), σ, τ) (fun r M' => r = none ∧ ((S, fr), σ, τ) = M') := by
    refine fs_enterC (by decide) (by simp [fs_ok]) (Nat.le_of_ble_eq_true rfl) (fun d => S_X8_requireIndex_0 ?_)
    show T_X8_requireIndex_0 g d _ [.int x, .int (σ 2 4)] [] _
    simp only [T_X8_requireIndex_0, fi_const, fi_iload, fi_aload, fi_istore, fi_astore, fi_iinc, fi_bin, fi_div, fi_un, fi_dup, fi_dup2, fi_pop, fi_if, fi_cmp, fi_getf, fi_putf, fi_putr, fi_ald, fi_ast, fi_alen, fi_iret, fi_zret, fi_vret, fi_cut, fi_no, fi_s0, fi_s1, fi_s2, fi_s3, fi_s4, fi_v0, fi_v1, fi_v2, fi_v3, fi_v4, fi_v5, fi_n0, fi_n1, fi_n2, fi_mm, fi_stat, fi_alds, fi_tsw, List.getElem?_cons_zero, List.getElem?_cons_succ, List.set_cons_zero, List.set_cons_succ, List.length_cons, List.length_nil, Option.toList_some, Option.toList_none, List.cons_append, List.nil_append, Value.category, true_and, k_0, k_1, k_2, k_3, k_4, false_implies, true_implies, reduceCtorEq]
    exact ⟨fun w => absurd w hb.1, fun _ => ⟨fun _ => trivial, fun w => absurd hb.2 w⟩⟩
  refine fx_enter (by decide) (by simp [fs_ok]) (Nat.le_of_ble_eq_true rfl) hd ?_
  refine fx_iload_n dX8_statusOf_0 rfl rfl ?_
  refine fx_aload_n dX8_statusOf_1 rfl rfl ?_
  refine fx_getf (j := 3) (v := .ref 2) cl_X8 (Nat.le_of_ble_eq_true rfl) rfl q_420 dX8_statusOf_2 hX.1 (fs_fl_get (r := some (some 2)) rfl) ?_
  refine fx_getf (j := 4) (v := .int (σ 2 4)) cl_X4 (Nat.le_of_ble_eq_true rfl) rfl q_150 dX8_statusOf_5 hX.2.2.1.1 (fs_fl_get (r := none) rfl) ?_
  refine fx_ok (As := [.int x, .int (σ 2 4)]) (rest := []) (μ' := m_X8_requireIndex) (d' := d - 1) ms_X8_requireIndex q_991 (by omega) rfl ⟨rfl, rfl⟩ dX8_statusOf_8 (hc (d - 1) (Nat.zero_le _)) (Nat.zero_le _) ?_
  rintro r M1 ⟨rfl, rfl⟩
  refine fx_iload_n dX8_statusOf_11 rfl rfl ?_
  refine fx_bipush (v := 12) dX8_statusOf_12 (by decide) ?_
  exact fx_thr (As := [.int z, .int 12]) (rest := []) (μ' := fx_i 8 m_X8_requireIndex) (d' := d - 1) ms_X8_requireIndex q_991 (by omega) rfl ⟨Nat.le_refl _, Nat.le_refl _⟩ dX8_statusOf_14 (fx_require hl hz (by omega)) (Nat.zero_le _)
theorem x_firstDay (hX : shX S) (hl : g.1.stackTraces = false) {x : Int32} (hb : x < 0 ∨ ¬ x < σ 2 4) (hd : 9 ≤ d) : fx_T g (fx_i 9 m_X8_firstDay) d [.ref 0, .int x] ((S, fr), σ, τ) ((S, false), σ, τ) := by
  refine fx_enter (by decide) (by simp [fs_ok]) (Nat.le_of_ble_eq_true rfl) hd ?_
  refine fx_iload_n dX8_firstDay_0 rfl rfl ?_
  refine fx_aload_n dX8_firstDay_1 rfl rfl ?_
  refine fx_getf (j := 3) (v := .ref 2) cl_X8 (Nat.le_of_ble_eq_true rfl) rfl q_420 dX8_firstDay_2 hX.1 (fs_fl_get (r := some (some 2)) rfl) ?_
  refine fx_getf (j := 4) (v := .int (σ 2 4)) cl_X4 (Nat.le_of_ble_eq_true rfl) rfl q_150 dX8_firstDay_5 hX.2.2.1.1 (fs_fl_get (r := none) rfl) ?_
  exact fx_thr (As := [.int x, .int (σ 2 4)]) (rest := []) (μ' := fx_i 8 m_X8_requireIndex) (d' := d - 1) ms_X8_requireIndex q_991 (by omega) rfl ⟨Nat.le_refl _, Nat.le_refl _⟩ dX8_firstDay_8 (fx_require hl hb (by omega)) (Nat.zero_le _)
theorem x_lastDay (hX : shX S) (hl : g.1.stackTraces = false) {x : Int32} (hb : x < 0 ∨ ¬ x < σ 2 4) (hd : 9 ≤ d) : fx_T g (fx_i 9 m_X8_lastDay) d [.ref 0, .int x] ((S, fr), σ, τ) ((S, false), σ, τ) := by
  refine fx_enter (by decide) (by simp [fs_ok]) (Nat.le_of_ble_eq_true rfl) hd ?_
  refine fx_iload_n dX8_lastDay_0 rfl rfl ?_
  refine fx_aload_n dX8_lastDay_1 rfl rfl ?_
  refine fx_getf (j := 3) (v := .ref 2) cl_X8 (Nat.le_of_ble_eq_true rfl) rfl q_420 dX8_lastDay_2 hX.1 (fs_fl_get (r := some (some 2)) rfl) ?_
  refine fx_getf (j := 4) (v := .int (σ 2 4)) cl_X4 (Nat.le_of_ble_eq_true rfl) rfl q_150 dX8_lastDay_5 hX.2.2.1.1 (fs_fl_get (r := none) rfl) ?_
  exact fx_thr (As := [.int x, .int (σ 2 4)]) (rest := []) (μ' := fx_i 8 m_X8_requireIndex) (d' := d - 1) ms_X8_requireIndex q_991 (by omega) rfl ⟨Nat.le_refl _, Nat.le_refl _⟩ dX8_lastDay_8 (fx_require hl hb (by omega)) (Nat.zero_le _)
theorem x_daysWith (hX : shX S) (hl : g.1.stackTraces = false) {x : Int32} (z : Int32) (hb : x < 0 ∨ ¬ x < σ 2 4) (hd : 9 ≤ d) : fx_T g (fx_i 9 m_X8_daysWith) d [.ref 0, .int x, .int z] ((S, fr), σ, τ) ((S, false), σ, τ) := by
  refine fx_enter (by decide) (by simp [fs_ok]) (Nat.le_of_ble_eq_true rfl) hd ?_
  refine fx_iload_n dX8_daysWith_0 rfl rfl ?_
  refine fx_aload_n dX8_daysWith_1 rfl rfl ?_
  refine fx_getf (j := 3) (v := .ref 2) cl_X8 (Nat.le_of_ble_eq_true rfl) rfl q_420 dX8_daysWith_2 hX.1 (fs_fl_get (r := some (some 2)) rfl) ?_
  refine fx_getf (j := 4) (v := .int (σ 2 4)) cl_X4 (Nat.le_of_ble_eq_true rfl) rfl q_150 dX8_daysWith_5 hX.2.2.1.1 (fs_fl_get (r := none) rfl) ?_
  exact fx_thr (As := [.int x, .int (σ 2 4)]) (rest := []) (μ' := fx_i 8 m_X8_requireIndex) (d' := d - 1) ms_X8_requireIndex q_991 (by omega) rfl ⟨Nat.le_refl _, Nat.le_refl _⟩ dX8_daysWith_8 (fx_require hl hb (by omega)) (Nat.zero_le _)
theorem x_actorCost (hX : shX S) (hl : g.1.stackTraces = false) {x : Int32} (hb : x < 0 ∨ ¬ x < σ 2 4) (hd : 9 ≤ d) : fx_T g (fx_i 9 m_X8_actorCost) d [.ref 0, .int x] ((S, fr), σ, τ) ((S, false), σ, τ) := by
  refine fx_enter (by decide) (by simp [fs_ok]) (Nat.le_of_ble_eq_true rfl) hd ?_
  refine fx_iload_n dX8_actorCost_0 rfl rfl ?_
  refine fx_aload_n dX8_actorCost_1 rfl rfl ?_
  refine fx_getf (j := 3) (v := .ref 2) cl_X8 (Nat.le_of_ble_eq_true rfl) rfl q_420 dX8_actorCost_2 hX.1 (fs_fl_get (r := some (some 2)) rfl) ?_
  refine fx_getf (j := 4) (v := .int (σ 2 4)) cl_X4 (Nat.le_of_ble_eq_true rfl) rfl q_150 dX8_actorCost_5 hX.2.2.1.1 (fs_fl_get (r := none) rfl) ?_
  exact fx_thr (As := [.int x, .int (σ 2 4)]) (rest := []) (μ' := fx_i 8 m_X8_requireIndex) (d' := d - 1) ms_X8_requireIndex q_991 (by omega) rfl ⟨Nat.le_refl _, Nat.le_refl _⟩ dX8_actorCost_8 (fx_require hl hb (by omega)) (Nat.zero_le _)
theorem x_reasonFor (hX : shX S) (hl : g.1.stackTraces = false) {x : Int32} (z : Int32) (hb : x < 0 ∨ ¬ x < σ 2 7) (hd : 9 ≤ d) : fx_T g (fx_i 9 m_X8_reasonFor) d [.ref 0, .int x, .int z] ((S, fr), σ, τ) ((S, false), σ, τ) := by
  refine fx_enter (by decide) (by simp [fs_ok]) (Nat.le_of_ble_eq_true rfl) hd ?_
  refine fx_iload_n dX8_reasonFor_0 rfl rfl ?_
  refine fx_aload_n dX8_reasonFor_1 rfl rfl ?_
  refine fx_getf (j := 3) (v := .ref 2) cl_X8 (Nat.le_of_ble_eq_true rfl) rfl q_420 dX8_reasonFor_2 hX.1 (fs_fl_get (r := some (some 2)) rfl) ?_
  refine fx_getf (j := 7) (v := .int (σ 2 7)) cl_X4 (Nat.le_of_ble_eq_true rfl) rfl q_161 dX8_reasonFor_5 hX.2.2.1.1 (fs_fl_get (r := none) rfl) ?_
  exact fx_thr (As := [.int x, .int (σ 2 7)]) (rest := []) (μ' := fx_i 8 m_X8_requireIndex) (d' := d - 1) ms_X8_requireIndex q_991 (by omega) rfl ⟨Nat.le_refl _, Nat.le_refl _⟩ dX8_reasonFor_8 (fx_require hl hb (by omega)) (Nat.zero_le _)
theorem x_reasonFor2 (hX : shX S) (hl : g.1.stackTraces = false) {x z : Int32} (hb : ¬ x < 0 ∧ x < σ 2 7) (hz : z < 0 ∨ ¬ z < 12) (hd : 9 ≤ d) : fx_T g (fx_i 9 m_X8_reasonFor) d [.ref 0, .int x, .int z] ((S, fr), σ, τ) ((S, false), σ, τ) := by
  have hc : fs_Ct g m_X8_requireIndex [.int x, .int (σ 2 7)] ((S, fr), σ, τ) (fun r M' => r = none ∧ ((S, fr), σ, τ) = M') := by
    refine fs_enterC (by decide) (by simp [fs_ok]) (Nat.le_of_ble_eq_true rfl) (fun d => S_X8_requireIndex_0 ?_)
    show T_X8_requireIndex_0 g d _ [.int x, .int (σ 2 7)] [] _
    simp only [T_X8_requireIndex_0, fi_const, fi_iload, fi_aload, fi_istore, fi_astore, fi_iinc, fi_bin, fi_div, fi_un, fi_dup, fi_dup2, fi_pop, fi_if, fi_cmp, fi_getf, fi_putf, fi_putr, fi_ald, fi_ast, fi_alen, fi_iret, fi_zret, fi_vret, fi_cut, fi_no, fi_s0, fi_s1, fi_s2, fi_s3, fi_s4, fi_v0, fi_v1, fi_v2, fi_v3, fi_v4, fi_v5, fi_n0, fi_n1, fi_n2, fi_mm, fi_stat, fi_alds, fi_tsw, List.getElem?_cons_zero, List.getElem?_cons_succ, List.set_cons_zero, List.set_cons_succ, List.length_cons, List.length_nil, Option.toList_some, Option.toList_none, List.cons_append, List.nil_append, Value.category, true_and, k_0, k_1, k_2, k_3, k_4, false_implies, true_implies, reduceCtorEq]
    exact ⟨fun w => absurd w hb.1, fun _ => ⟨fun _ => trivial, fun w => absurd hb.2 w⟩⟩
  refine fx_enter (by decide) (by simp [fs_ok]) (Nat.le_of_ble_eq_true rfl) hd ?_
  refine fx_iload_n dX8_reasonFor_0 rfl rfl ?_
  refine fx_aload_n dX8_reasonFor_1 rfl rfl ?_
  refine fx_getf (j := 3) (v := .ref 2) cl_X8 (Nat.le_of_ble_eq_true rfl) rfl q_420 dX8_reasonFor_2 hX.1 (fs_fl_get (r := some (some 2)) rfl) ?_
  refine fx_getf (j := 7) (v := .int (σ 2 7)) cl_X4 (Nat.le_of_ble_eq_true rfl) rfl q_161 dX8_reasonFor_5 hX.2.2.1.1 (fs_fl_get (r := none) rfl) ?_
  refine fx_ok (As := [.int x, .int (σ 2 7)]) (rest := []) (μ' := m_X8_requireIndex) (d' := d - 1) ms_X8_requireIndex q_991 (by omega) rfl ⟨rfl, rfl⟩ dX8_reasonFor_8 (hc (d - 1) (Nat.zero_le _)) (Nat.zero_le _) ?_
  rintro r M1 ⟨rfl, rfl⟩
  refine fx_iload_n dX8_reasonFor_11 rfl rfl ?_
  refine fx_bipush (v := 12) dX8_reasonFor_12 (by decide) ?_
  exact fx_thr (As := [.int z, .int 12]) (rest := []) (μ' := fx_i 8 m_X8_requireIndex) (d' := d - 1) ms_X8_requireIndex q_991 (by omega) rfl ⟨Nat.le_refl _, Nat.le_refl _⟩ dX8_reasonFor_14 (fx_require hl hz (by omega)) (Nat.zero_le _)
theorem x_daysFor (hX : shX S) (hl : g.1.stackTraces = false) {x : Int32} (hb : x < 0 ∨ ¬ x < σ 2 7) (hd : 9 ≤ d) : fx_T g (fx_i 9 m_X8_daysFor) d [.ref 0, .int x] ((S, fr), σ, τ) ((S, false), σ, τ) := by
  refine fx_enter (by decide) (by simp [fs_ok]) (Nat.le_of_ble_eq_true rfl) hd ?_
  refine fx_iload_n dX8_daysFor_0 rfl rfl ?_
  refine fx_aload_n dX8_daysFor_1 rfl rfl ?_
  refine fx_getf (j := 3) (v := .ref 2) cl_X8 (Nat.le_of_ble_eq_true rfl) rfl q_420 dX8_daysFor_2 hX.1 (fs_fl_get (r := some (some 2)) rfl) ?_
  refine fx_getf (j := 7) (v := .int (σ 2 7)) cl_X4 (Nat.le_of_ble_eq_true rfl) rfl q_161 dX8_daysFor_5 hX.2.2.1.1 (fs_fl_get (r := none) rfl) ?_
  exact fx_thr (As := [.int x, .int (σ 2 7)]) (rest := []) (μ' := fx_i 8 m_X8_requireIndex) (d' := d - 1) ms_X8_requireIndex q_991 (by omega) rfl ⟨Nat.le_refl _, Nat.le_refl _⟩ dX8_daysFor_8 (fx_require hl hb (by omega)) (Nat.zero_le _)
theorem x_costWith (hX : shX S) (hl : g.1.stackTraces = false) {x : Int32} (z : Int32) (hb : x < 0 ∨ ¬ x < σ 2 7) (hd : 9 ≤ d) : fx_T g (fx_i 9 m_X8_costWith) d [.ref 0, .int x, .int z] ((S, fr), σ, τ) ((S, false), σ, τ) := by
  refine fx_enter (by decide) (by simp [fs_ok]) (Nat.le_of_ble_eq_true rfl) hd ?_
  refine fx_iload_n dX8_costWith_0 rfl rfl ?_
  refine fx_aload_n dX8_costWith_1 rfl rfl ?_
  refine fx_getf (j := 3) (v := .ref 2) cl_X8 (Nat.le_of_ble_eq_true rfl) rfl q_420 dX8_costWith_2 hX.1 (fs_fl_get (r := some (some 2)) rfl) ?_
  refine fx_getf (j := 7) (v := .int (σ 2 7)) cl_X4 (Nat.le_of_ble_eq_true rfl) rfl q_161 dX8_costWith_5 hX.2.2.1.1 (fs_fl_get (r := none) rfl) ?_
  exact fx_thr (As := [.int x, .int (σ 2 7)]) (rest := []) (μ' := fx_i 8 m_X8_requireIndex) (d' := d - 1) ms_X8_requireIndex q_991 (by omega) rfl ⟨Nat.le_refl _, Nat.le_refl _⟩ dX8_costWith_8 (fx_require hl hb (by omega)) (Nat.zero_le _)
theorem x_costWith2 (hX : shX S) (hl : g.1.stackTraces = false) {x z : Int32} (hb : ¬ x < 0 ∧ x < σ 2 7) (hz : z < 0 ∨ ¬ z < 12) (hd : 9 ≤ d) : fx_T g (fx_i 9 m_X8_costWith) d [.ref 0, .int x, .int z] ((S, fr), σ, τ) ((S, false), σ, τ) := by
  have hc : fs_Ct g m_X8_requireIndex [.int x, .int (σ 2 7)] ((S, fr), σ, τ) (fun r M' => r = none ∧ ((S, fr), σ, τ) = M') := by
    refine fs_enterC (by decide) (by simp [fs_ok]) (Nat.le_of_ble_eq_true rfl) (fun d => S_X8_requireIndex_0 ?_)
    show T_X8_requireIndex_0 g d _ [.int x, .int (σ 2 7)] [] _
    simp only [T_X8_requireIndex_0, fi_const, fi_iload, fi_aload, fi_istore, fi_astore, fi_iinc, fi_bin, fi_div, fi_un, fi_dup, fi_dup2, fi_pop, fi_if, fi_cmp, fi_getf, fi_putf, fi_putr, fi_ald, fi_ast, fi_alen, fi_iret, fi_zret, fi_vret, fi_cut, fi_no, fi_s0, fi_s1, fi_s2, fi_s3, fi_s4, fi_v0, fi_v1, fi_v2, fi_v3, fi_v4, fi_v5, fi_n0, fi_n1, fi_n2, fi_mm, fi_stat, fi_alds, fi_tsw, List.getElem?_cons_zero, List.getElem?_cons_succ, List.set_cons_zero, List.set_cons_succ, List.length_cons, List.length_nil, Option.toList_some, Option.toList_none, List.cons_append, List.nil_append, Value.category, true_and, k_0, k_1, k_2, k_3, k_4, false_implies, true_implies, reduceCtorEq]
    exact ⟨fun w => absurd w hb.1, fun _ => ⟨fun _ => trivial, fun w => absurd hb.2 w⟩⟩
  refine fx_enter (by decide) (by simp [fs_ok]) (Nat.le_of_ble_eq_true rfl) hd ?_
  refine fx_iload_n dX8_costWith_0 rfl rfl ?_
  refine fx_aload_n dX8_costWith_1 rfl rfl ?_
  refine fx_getf (j := 3) (v := .ref 2) cl_X8 (Nat.le_of_ble_eq_true rfl) rfl q_420 dX8_costWith_2 hX.1 (fs_fl_get (r := some (some 2)) rfl) ?_
  refine fx_getf (j := 7) (v := .int (σ 2 7)) cl_X4 (Nat.le_of_ble_eq_true rfl) rfl q_161 dX8_costWith_5 hX.2.2.1.1 (fs_fl_get (r := none) rfl) ?_
  refine fx_ok (As := [.int x, .int (σ 2 7)]) (rest := []) (μ' := m_X8_requireIndex) (d' := d - 1) ms_X8_requireIndex q_991 (by omega) rfl ⟨rfl, rfl⟩ dX8_costWith_8 (hc (d - 1) (Nat.zero_le _)) (Nat.zero_le _) ?_
  rintro r M1 ⟨rfl, rfl⟩
  refine fx_iload_n dX8_costWith_11 rfl rfl ?_
  refine fx_bipush (v := 12) dX8_costWith_12 (by decide) ?_
  exact fx_thr (As := [.int z, .int 12]) (rest := []) (μ' := fx_i 8 m_X8_requireIndex) (d' := d - 1) ms_X8_requireIndex q_991 (by omega) rfl ⟨Nat.le_refl _, Nat.le_refl _⟩ dX8_costWith_14 (fx_require hl hz (by omega)) (Nat.zero_le _)
theorem x_bestDay (hX : shX S) (hl : g.1.stackTraces = false) {x : Int32} (hb : x < 0 ∨ ¬ x < σ 2 7) (hd : 9 ≤ d) : fx_T g (fx_i 9 m_X8_bestDay) d [.ref 0, .int x] ((S, fr), σ, τ) ((S, false), σ, τ) := by
  refine fx_enter (by decide) (by simp [fs_ok]) (Nat.le_of_ble_eq_true rfl) hd ?_
  refine fx_iload_n dX8_bestDay_0 rfl rfl ?_
  refine fx_aload_n dX8_bestDay_1 rfl rfl ?_
  refine fx_getf (j := 3) (v := .ref 2) cl_X8 (Nat.le_of_ble_eq_true rfl) rfl q_420 dX8_bestDay_2 hX.1 (fs_fl_get (r := some (some 2)) rfl) ?_
  refine fx_getf (j := 7) (v := .int (σ 2 7)) cl_X4 (Nat.le_of_ble_eq_true rfl) rfl q_161 dX8_bestDay_5 hX.2.2.1.1 (fs_fl_get (r := none) rfl) ?_
  exact fx_thr (As := [.int x, .int (σ 2 7)]) (rest := []) (μ' := fx_i 8 m_X8_requireIndex) (d' := d - 1) ms_X8_requireIndex q_991 (by omega) rfl ⟨Nat.le_refl _, Nat.le_refl _⟩ dX8_bestDay_8 (fx_require hl hb (by omega)) (Nat.zero_le _)
theorem x_waitingFor (hX : shX S) (hl : g.1.stackTraces = false) {x : Int32} (z : Int32) (hb : x < 0 ∨ ¬ x < σ 2 0) (hd : 9 ≤ d) : fx_T g (fx_i 9 m_X8_waitingFor) d [.ref 0, .int x, .int z] ((S, fr), σ, τ) ((S, false), σ, τ) := by
  refine fx_enter (by decide) (by simp [fs_ok]) (Nat.le_of_ble_eq_true rfl) hd ?_
  refine fx_iload_n dX8_waitingFor_0 rfl rfl ?_
  refine fx_aload_n dX8_waitingFor_1 rfl rfl ?_
  refine fx_getf (j := 3) (v := .ref 2) cl_X8 (Nat.le_of_ble_eq_true rfl) rfl q_420 dX8_waitingFor_2 hX.1 (fs_fl_get (r := some (some 2)) rfl) ?_
  refine fx_getf (j := 0) (v := .int (σ 2 0)) cl_X4 (Nat.le_of_ble_eq_true rfl) rfl q_139 dX8_waitingFor_5 hX.2.2.1.1 (fs_fl_get (r := none) rfl) ?_
  exact fx_thr (As := [.int x, .int (σ 2 0)]) (rest := []) (μ' := fx_i 8 m_X8_requireIndex) (d' := d - 1) ms_X8_requireIndex q_991 (by omega) rfl ⟨Nat.le_refl _, Nat.le_refl _⟩ dX8_waitingFor_8 (fx_require hl hb (by omega)) (Nat.zero_le _)
end FX2
