/-! ===== THE FRAME: a flat abstract memory, a judgement fs_R over it, contracts fs_Ct ===== -/
/-- the constants of a run: launch, first new address, addresses of what was there before, class numbers, slots, array classes, the script's length and ints -/
abbrev fs_G : Type := Launch × Nat × (Nat → Nat) × (Nat → ClassId) × (Nat → Nat → Nat) × (FieldType → ClassId) × Nat × (Nat → Int32)
abbrev fs_B (g : fs_G) : Nat := g.2.1
abbrev fs_s (g : fs_G) : Nat → Nat := g.2.2.1
abbrev fs_D (g : fs_G) : va_G := (g.2.2.2.1, g.2.2.2.2.1)
abbrev fs_t (g : fs_G) : FieldType → ClassId := g.2.2.2.2.2.1
abbrev fs_XL (g : fs_G) : Nat := g.2.2.2.2.2.2.1
abbrev fs_Xs (g : fs_G) : Nat → Int32 := g.2.2.2.2.2.2.2
abbrev fs_A (g : fs_G) : Nat → Prop := fun q => fs_B g ≤ q
/-- a cell's shape: an array (type, length), or an object (class, its slots: a number, null, a cell) -/
abbrev fs_Sh : Type := (FieldType × Nat) ⊕ (Nat × List (Option (Option Nat)))
abbrev fs_Sp : Type := List fs_Sh × Bool
abbrev fs_M : Type := fs_Sp × (Nat → Nat → Int32) × (Nat → Nat → Int64)
/-- method: name, code, locals, answer's type, cells and slots that it makes, depth of its calls -/
abbrev fs_I : Type := MethodName × ByteArray × Nat × Option FieldType × Nat × Nat × Nat
abbrev fs_iy (μ : fs_I) : MethodName := μ.1
abbrev fs_ic (μ : fs_I) : ByteArray := μ.2.1
abbrev fs_iL (μ : fs_I) : Nat := μ.2.2.1
abbrev fs_ir (μ : fs_I) : Option FieldType := μ.2.2.2.1
abbrev fs_mc (μ : fs_I) : Nat := μ.2.2.2.2.1
abbrev fs_ms (μ : fs_I) : Nat := μ.2.2.2.2.2.1
abbrev fs_dp (μ : fs_I) : Nat := μ.2.2.2.2.2.2
def fs_ad (g : fs_G) (k : Nat) : Nat := if k < 10000 then fs_B g + k else fs_s g (k - 10000)
def fs_cv (g : fs_G) : Value → Value
  | .ref k => .ref (fs_ad g k)
  | v => v
def fs_sl (g : fs_G) (σ : Nat → Nat → Int32) (k j : Nat) : Option (Option Nat) → Value
  | none => .int (σ k j)
  | some none => .null
  | some (some q) => .ref (fs_ad g q)
def fs_fl (g : fs_G) (σ : Nat → Nat → Int32) (k : Nat) (rs : List (Option (Option Nat))) : List Value := rs.mapIdx (fun j r => fs_sl g σ k j r)
def fs_en (g : fs_G) (σ : Nat → Nat → Int32) (τ : Nat → Nat → Int64) (k : Nat) : fs_Sh → va_E
  | .inl (ty, n) => .inl (fs_t g ty, n, match ty with | .long => .inr (.inl (τ k)) | _ => .inl (σ k))
  | .inr (c, rs) => .inr (c, fs_fl g σ k rs)
def fs_wl (g : fs_G) (M : fs_M) : va_W := M.1.1.mapIdx (fun k sh => (fs_B g + k, fs_en g M.2.1 M.2.2 k sh))
def fs_u (σ : Nat → Nat → Int32) (k j : Nat) (x : Int32) : Nat → Nat → Int32 := fun a b => if a = k ∧ b = j then x else σ a b
def fs_uL (τ : Nat → Nat → Int64) (k j : Nat) (x : Int64) : Nat → Nat → Int64 := fun a b => if a = k ∧ b = j then x else τ a b
/-- the heap holds the abstract memory -/
def fs_W (g : fs_G) (M : fs_M) (H : Heap) : Prop := va_P (fs_D g) vwCl (fs_wl g M) H ∧ M.1.1.length ≤ 10000 ∧ (M.1.2 = true → H.size = fs_B g + M.1.1.length)
theorem fs_ad_lt {g : fs_G} {k : Nat} (h : k < 10000) : fs_ad g k = fs_B g + k := if_pos h
theorem fs_wl_get {g : fs_G} {M : fs_M} {k : Nat} {sh : fs_Sh} (h : M.1.1[k]? = some sh) : (fs_wl g M)[k]? = some (fs_B g + k, fs_en g M.2.1 M.2.2 k sh) := by
  simp [fs_wl, List.getElem?_mapIdx, h]
theorem fs_wl_D (g : fs_G) (M : fs_M) : va_D (fs_A g) (fs_wl g M) := by
  have key : ∀ (k : Nat) (q : Nat × va_E), (fs_wl g M)[k]? = some q → q.1 = fs_B g + k := by
    intro k q hk
    simp only [fs_wl, List.getElem?_mapIdx] at hk
    cases h : M.1.1[k]? with
    | none => rw [h] at hk; simp at hk
    | some sh => rw [h] at hk; simp at hk; rw [← hk]
  refine ⟨fun i j p q hi hj h => ?_, fun k q hk => ?_⟩
  · have h1 := key i p hi
    have h2 := key j q hj
    omega
  · show fs_B g ≤ q.1
    rw [key k q hk]
    omega
theorem fs_wl_set {g : fs_G} {M : fs_M} {k : Nat} {e : va_E} {M' : fs_M} (hS : M'.1.1.length = M.1.1.length) (hk : ∀ sh, M'.1.1[k]? = some sh → fs_en g M'.2.1 M'.2.2 k sh = e) (hne : ∀ j, j ≠ k → M'.1.1[j]? = M.1.1[j]?) (hn : ∀ j, j ≠ k → M'.2.1 j = M.2.1 j) (hl : ∀ j, j ≠ k → M'.2.2 j = M.2.2 j) :
    (fs_wl g M).set k (fs_B g + k, e) = fs_wl g M' := by
  apply List.ext_getElem?
  intro j
  by_cases h : j = k
  · subst h
    by_cases hlt : j < M.1.1.length
    · have hlt' : j < M'.1.1.length := by omega
      have e1 : M'.1.1[j]? = some M'.1.1[j] := List.getElem?_eq_getElem hlt'
      rw [List.getElem?_set_self (by simp [fs_wl, hlt]), fs_wl_get e1, hk _ e1]
    · rw [List.getElem?_eq_none (by simp [fs_wl]; omega), List.getElem?_eq_none (by simp [fs_wl]; omega)]
  · rw [List.getElem?_set_ne (Ne.symm h)]
    simp only [fs_wl, List.getElem?_mapIdx, hne j h]
    cases hq : M.1.1[j]? with
    | none => rfl
    | some sh =>
      simp only [Option.map_some]
      congr 2
      obtain ⟨ty, n⟩ | ⟨c, rs⟩ := sh
      · simp only [fs_en, hn j h, hl j h]
      · simp only [fs_en, fs_fl, fs_sl, hn j h]
theorem fs_u_ne {σ : Nat → Nat → Int32} {k i : Nat} {x : Int32} {j : Nat} (h : j ≠ k) : fs_u σ k i x j = σ j := by
  funext b
  simp [fs_u, h]
theorem fs_uL_ne {σ : Nat → Nat → Int64} {k i : Nat} {x : Int64} {j : Nat} (h : j ≠ k) : fs_uL σ k i x j = σ j := by
  funext b
  simp [fs_uL, h]
theorem fs_u_self {σ : Nat → Nat → Int32} {k i : Nat} {x : Int32} : fs_u σ k i x k = upd (σ k) i x := by
  funext b
  simp [fs_u, upd]
theorem fs_uL_self {σ : Nat → Nat → Int64} {k i : Nat} {x : Int64} : fs_uL σ k i x k = vp_updL (σ k) i x := by
  funext b
  simp [fs_uL, vp_updL]
/-- what the tables say besides: nest mates, statics, texts -/
def fs_mn : List (String × Nat × MethodName × String) := [(RX8, 47, yX1_init, RX8), (RX2, 150, yX8_has, RX8), (RX2, 147, yX8_isSetting, RX8), (RX0, 93, yX8_has, RX8), (RX7, 9, yX8_has, RX8), (RX5, 38, yX8_has, RX8), (RX3, 114, yX8_has, RX8), (RX0, 47, yX8_exchanged, RX8)]
def fs_fn : List (String × Nat × String × String × String × String) := [(RX4, 65, "FilmSchedule", "INITIAL_SETTINGS", "[I", RX8), (RX2, 154, "FilmSchedule", "LEAST_SETTINGS", "[I", RX8), (RX2, 158, "FilmSchedule", "MOST_SETTINGS", "[I", RX8)]
/-- the static rows: name, place, numbers -/
def fs_sa : List (String × Nat × List Int32) := [("INITIAL_SETTINGS", 1, [24, 100, 50, 4]), ("LEAST_SETTINGS", 2, [1, 0, 0, 1]), ("MOST_SETTINGS", 3, [99, 9999, 100, 12])]
/-- the texts: class, entry, text, bytes, place -/
def fs_sr : List (String × Nat × String × List Int32 × Nat) := [("FilmSchedule$Loader", 64, "location", [108, 111, 99, 97, 116, 105, 111, 110], 0),
  ("FilmSchedule$Tokens", 60, "actor", [97, 99, 116, 111, 114], 1),
  ("FilmSchedule$Tokens", 66, "scene", [115, 99, 101, 110, 101], 2),
  ("FilmSchedule$Tokens", 68, "set", [115, 101, 116], 3),
  ("FilmSchedule$Tokens", 70, "day", [100, 97, 121], 4),
  ("FilmSchedule$Tokens", 72, "in", [105, 110], 5),
  ("FilmSchedule$Tokens", 74, "out", [111, 117, 116], 6),
  ("FilmSchedule$Tokens", 76, "night", [110, 105, 103, 104, 116], 7),
  ("FilmSchedule$Tokens", 78, "move", [109, 111, 118, 101], 8),
  ("FilmSchedule$Tokens", 80, "hold", [104, 111, 108, 100], 9),
  ("FilmSchedule$Tokens", 82, "drop", [100, 114, 111, 112], 10),
  ("FilmSchedule$Loader", 111, "in", [105, 110], 11),
  ("FilmSchedule$Loader", 113, "out", [111, 117, 116], 12),
  ("FilmSchedule$Loader", 73, "actor", [97, 99, 116, 111, 114], 13),
  ("FilmSchedule$Loader", 78, "scene", [115, 99, 101, 110, 101], 14),
  ("FilmSchedule$Loader", 135, "night", [110, 105, 103, 104, 116], 15),
  ("FilmSchedule$Loader", 83, "set", [115, 101, 116], 16),
  ("FilmSchedule$Loader", 194, "capacity", [99, 97, 112, 97, 99, 105, 116, 121], 17),
  ("FilmSchedule$Loader", 196, "move", [109, 111, 118, 101], 18),
  ("FilmSchedule$Loader", 198, "hold", [104, 111, 108, 100], 19),
  ("FilmSchedule$Loader", 200, "drop", [100, 114, 111, 112], 20),
  ("FilmSchedule$Loader", 88, "day", [100, 97, 121], 21),
  ("FilmSchedule", 274, "there is no such index", [116, 104, 101, 114, 101, 32, 105, 115, 32, 110, 111, 32, 115, 117, 99, 104, 32, 105, 110, 100, 101, 120], 22),
  ("FilmScheduleModel", 110, "location actor scene set day in out night capacity move hold drop ", [108, 111, 99, 97, 116, 105, 111, 110, 32, 97, 99, 116, 111, 114, 32, 115, 99, 101, 110, 101, 32, 115, 101, 116, 32, 100, 97, 121, 32, 105, 110, 32, 111, 117, 116, 32, 110, 105, 103, 104, 116, 32, 99, 97, 112, 97, 99, 105, 116, 121, 32, 109, 111, 118, 101, 32, 104, 111, 108, 100, 32, 100, 114, 111, 112, 32], 23)]
/-- the words that every contract takes -/
def fs_tb : List Cond := lw_tbl.filter goodWord
theorem fs_in {w : Cond} (i : Nat) (h : lw_tbl[i]? = some w) (hg : goodWord w = true) : w ∈ fs_tb := List.mem_filter.mpr ⟨List.mem_of_getElem? h, hg⟩
def fs_PR : String := "jdk/internal/util/Preconditions"
def fs_BF : String := "Ljava/util/function/BiFunction;"
def fs_KS (g : fs_G) (U : State) (H : Heap) : Prop :=
  (∀ q ∈ fs_sa, va_Z "FilmSchedule" q.1 "[I" (.ref (fs_s g q.2.1)) (fs_A g) U H ∧ va_T .int (fs_s g q.2.1) 4 (fun j => .int (q.2.2.getD j 0)) (fs_A g) U H) ∧
  (∀ q ∈ fs_sr, va_O "java/lang/String" (fs_s g (100 + q.2.2.2.2)) (fs_A g) U H ∧ va_OF "java/lang/String" "coder" "B" (.int 0) (fs_s g (100 + q.2.2.2.2)) (fs_A g) U H ∧ va_OF "java/lang/String" "value" "[B" (.ref (fs_s g (200 + q.2.2.2.2))) (fs_s g (100 + q.2.2.2.2)) (fs_A g) U H ∧ va_T .byte (fs_s g (200 + q.2.2.2.2)) q.2.2.2.1.length (fun j => .int (q.2.2.2.1.getD j 0)) (fs_A g) U H) ∧
  va_Z "java/lang/String" "COMPACT_STRINGS" "Z" (.int 1) (fs_A g) U H ∧
  vx_Zq Bundle.tN "UNASSIGNED_STACK" Bundle.steD (fs_A g) U H ∧ vx_Zq Bundle.tN "SUPPRESSED_SENTINEL" Bundle.listD (fs_A g) U H ∧
  (va_Z fs_PR "SIOOBE_FORMATTER" fs_BF .null (fs_A g) U H ∨ va_Z fs_PR "SIOOBE_FORMATTER" fs_BF (.ref (fs_s g 51)) (fs_A g) U H) ∧
  va_T .int (fs_s g 50) (fs_XL g) (fun j => .int (fs_Xs g j)) (fs_A g) U H
/-- the exception of a bad index, the classes above it -/
def fs_IO : String := "java/lang/IndexOutOfBoundsException"
def fs_ex : List String := ["java/lang/RuntimeException", "java/lang/Exception", Bundle.tN]
def fs_KV (g : fs_G) (U : State) : Prop :=
  (∀ q ∈ fs_mn, va_Nw (.methodLinkNest q.1 q.2.1 q.2.2.1 q.2.2.2) U) ∧ (∀ q ∈ fs_fn, va_Nw (.fieldLinkNest q.1 q.2.1 q.2.2.1 q.2.2.2.1 q.2.2.2.2.1 q.2.2.2.2.2) U) ∧ (∀ q ∈ fs_sr, vk_R q.1 q.2.1 q.2.2.1 (fs_s g (100 + q.2.2.2.2)) U) ∧ va_Nw (.castable fs_IO fs_IO) U ∧ ∀ y ∈ fs_ex, va_Nw (.declares (Bundle.initS y)) U
def fs_ty (g : fs_G) : List (ClassId × FieldType) := [(fs_t g .int, .int), (fs_t g .boolean, .boolean), (fs_t g .byte, .byte), (fs_t g .long, .long)]
def fs_K (g : fs_G) (U : State) : Prop := va_K (fs_D g) vwCl (fs_ty g) U ∧ fs_KV g U ∧ fs_KS g U U.heap
theorem fs_KS.kept {g : fs_G} {U : State} {H H1 : Heap} (h : fs_KS g U H) (hq : ∀ a : Nat, a < H.size → ¬ fs_A g a → H1[a]? = H[a]?) : fs_KS g U H1 := by
  obtain ⟨h1, h2, h3, h4, h5, h6, h7⟩ := h
  exact ⟨fun q m => ⟨(h1 q m).1.kept hq, (h1 q m).2.kept hq⟩, fun q m => ⟨(h2 q m).1.kept hq, (h2 q m).2.1.kept hq, (h2 q m).2.2.1.kept hq, (h2 q m).2.2.2.kept hq⟩, h3.kept hq, h4.kept hq, h5.kept hq, h6.imp (fun h => h.kept hq) (fun h => h.kept hq), h7.kept hq⟩
theorem fs_KS.moved {g : fs_G} {u U : State} {H : Heap} (hvm : u.vm.Alike U.vm) (h : fs_KS g u H) : fs_KS g U H := by
  obtain ⟨h1, h2, h3, h4, h5, h6, h7⟩ := h
  exact ⟨fun q m => ⟨(h1 q m).1.moved hvm, (h1 q m).2.moved hvm⟩, fun q m => ⟨(h2 q m).1.moved hvm, (h2 q m).2.1.moved hvm, (h2 q m).2.2.1.moved hvm, (h2 q m).2.2.2.moved hvm⟩, h3.moved hvm, h4.moved hvm, h5.moved hvm, h6.imp (fun h => h.moved hvm) (fun h => h.moved hvm), h7.moved hvm⟩
theorem fs_K.warm {g : fs_G} {s U : State} (hW : s.WarmedH U.vm) (hq : ∀ a : Nat, a < s.heap.size → ¬ fs_A g a → U.heap[a]? = s.heap[a]?) (h : fs_K g s) : fs_K g U := by
  obtain ⟨h1, ⟨h2, h3, h4, h6, h7⟩, h5⟩ := h
  exact ⟨va_K.moved hW.alike h1, ⟨fun q m => va_Nw.warmM hW (h2 q m), fun q m => va_Nw.warmF hW (h3 q m), fun q m => vk_R.warm hW (h4 q m), va_Nw.warmC hW h6, fun q m => va_Nw.warmD hW (h7 q m)⟩, fs_KS.moved hW.alike (h5.kept hq)⟩
theorem fs_K.calling {g : fs_G} {U : State} (f : JFrame) (mk : MethodId) (a : Array Value) (h : fs_K g U) : fs_K g (U.calling f mk a) := by
  obtain ⟨h1, ⟨h2, h3, h4, h6, h7⟩, h5⟩ := h
  exact ⟨va_K.moved (u := U) (U := U.calling f mk a) (Vm.Alike.refl U.vm) h1, ⟨fun q m => va_Nw.same (u := U) rfl rfl (h2 q m), fun q m => va_Nw.same (u := U) rfl rfl (h3 q m), fun q m => vk_R.same (u := U) rfl (h4 q m), va_Nw.same (u := U) rfl rfl h6, fun q m => va_Nw.same (u := U) rfl rfl (h7 q m)⟩, fs_KS.moved (u := U) (U := U.calling f mk a) (Vm.Alike.refl U.vm) h5⟩
/-- locals: what is known of them -/
def fs_ok : Value → Bool
  | .int _ => true
  | .ref _ => true
  | _ => false
def fs_lv (g : fs_G) (ls : List Value) : List (Nat × Value) := (ls.mapIdx (fun i v => (i, fs_cv g v))).filter (fun q => fs_ok q.2)
def fs_L (g : fs_G) (lsA : Array Slot) (ls : List Value) (nL : Nat) : Prop := lv_has lsA nL (fs_lv g ls) ∧ ls.length = nL
def fs_rm (μ : fs_I) (d : Nat) : Room := { frames := d, cells := fs_mc μ, slots := fs_ms μ, locals := 64 * d }
def fs_C (g : fs_G) (μ : fs_I) (d : Nat) (p : Program) (R : Room) (s : State) (m : MethodId) (args : Array Value) (meth : Method) (c : Code) : Prop :=
  p.tables.exec = Jvm.exec ∧ c.code = fs_ic μ ∧ meth.sig.returnType = fs_ir μ ∧ meth.locks = false ∧ c.maxLocals = fs_iL μ ∧ s.vm.findClass (fs_iy μ).cls = some m.cls ∧ (∀ w ∈ fs_tb, w.before args s = true) ∧ meth.name = (fs_iy μ).name ∧ R = fs_rm μ d ∧ fs_K g s ∧ fs_B g ≤ s.heap.size ∧ fs_dp μ ≤ d
def fs_Q (g : fs_G) (Q : Option Value → fs_M → Prop) : Array Value → State → Outcome → State → Prop := fun _ st oc t => (∃ (r : Option Value) (M : fs_M), oc = .returned (r.map (fs_cv g)) ∧ Q r M ∧ fs_W g M t.heap) ∧ va_F (fs_A g) st t
/-- from here (place pc, locals, stack, memory) the method returns, and Q holds of answer and memory -/
def fs_R (g : fs_G) (μ : fs_I) (d : Nat) (u : Nat × Nat) (pc : Nat) (ls st : List Value) (M : fs_M) (Q : Option Value → fs_M → Prop) : Prop :=
  ∀ (p : Program) (e : Env) (R : Room) (s : State) (m : MethodId) (args : Array Value) (below : List Frame) (meth : Method) (c : Code) (H : Heap) (locs : List Loc) (lsA : Array Slot), fs_C g μ d p R s m args meth c → va_S (fs_A g) s.heap H locs → fs_W g M H → fs_L g lsA ls (fs_iL μ) →
    W p g.1 e R s m args below meth c H locs u.1 u.2 (MQ below (fs_Q g Q) args s (fs_mc μ) (fs_ms μ) (fs_A g)) (F0 m pc lsA (st.map (fs_cv g)))
/-- the contract -/
def fs_T (g : fs_G) (μ : fs_I) (d : Nat) (av : List Value) (M : fs_M) (Q : Option Value → fs_M → Prop) : Prop :=
  Met g.1 (fs_iy μ) (.code (fs_iy μ) (fs_ic μ) (fs_iL μ) (fs_ir μ) :: fs_tb) (fs_rm μ d) (va_Pc (av.map (fs_cv g)) (fun U => fs_B g ≤ U.heap.size ∧ fs_K g U ∧ fs_W g M U.heap)) (fs_Q g Q) (fs_mc μ) (fs_ms μ) (fs_A g)
def fs_Ct (g : fs_G) (μ : fs_I) (av : List Value) (M : fs_M) (Q : Option Value → fs_M → Prop) : Prop := ∀ d, fs_dp μ ≤ d → fs_T g μ d av M Q
theorem fs_T.mono {g : fs_G} {μ : fs_I} {d : Nat} {av : List Value} {M : fs_M} {Q Q' : Option Value → fs_M → Prop} (h : fs_T g μ d av M Q) (hQ : ∀ r M', Q r M' → Q' r M') : fs_T g μ d av M Q' := by
  unfold fs_T Met at h ⊢
  exact MetFree.mono h (fun _ _ x => x) (fun _ _ _ _ _ x => x) (fun _ _ _ _ _ ⟨⟨⟨r, M', e1, e2, e3⟩, e4⟩, e5⟩ => ⟨⟨⟨r, M', e1, hQ r M' e2, e3⟩, e4⟩, e5⟩)
theorem fs_Ct.mono {g : fs_G} {μ : fs_I} {av : List Value} {M : fs_M} {Q Q' : Option Value → fs_M → Prop} (h : fs_Ct g μ av M Q) (hQ : ∀ r M', Q r M' → Q' r M') : fs_Ct g μ av M Q' := fun d hd => (h d hd).mono hQ
theorem fs_lv_at {g : fs_G} {lsA : Array Slot} {ls : List Value} {nL i : Nat} {v : Value} (h : fs_L g lsA ls nL) (hi : ls[i]? = some v) (hv : fs_ok v = true) : lsA[i]? = some (.val (fs_cv g v)) := by
  refine h.1.2.2 (i, fs_cv g v) (List.mem_filter.mpr ⟨?_, by cases v <;> simp_all [fs_ok, fs_cv]⟩)
  refine List.mem_of_getElem? (i := i) ?_
  simp [List.getElem?_mapIdx, hi]
theorem fs_L_set {g : fs_G} {lsA : Array Slot} {ls : List Value} {nL i : Nat} {v : Value} (h : fs_L g lsA ls nL) (hi : i < nL) (hv : fs_ok v = true) : ∃ lsB, storeLocals lsA i (fs_cv g v) = some lsB ∧ fs_L g lsB (ls.set i v) nL := by
  obtain ⟨lsB, e1, e2⟩ := lv_store1 (v := fs_cv g v) h.1 hi (by cases v <;> simp_all [fs_ok, fs_cv, Value.category])
  refine ⟨lsB, e1, ⟨e2.1, e2.2.1, fun q hq => ?_⟩, by rw [List.length_set]; exact h.2⟩
  obtain ⟨hq1, hq2⟩ := List.mem_filter.mp hq
  obtain ⟨j, hj⟩ := List.getElem?_of_mem hq1
  rw [List.getElem?_mapIdx, List.getElem?_set] at hj
  by_cases hji : i = j
  · subst hji
    rw [if_pos rfl, if_pos (by rw [h.2]; exact hi)] at hj
    simp at hj
    rw [← hj]
    exact e2.2.2 _ List.mem_cons_self
  · rw [if_neg hji] at hj
    cases hz : ls[j]? with
    | none => rw [hz] at hj; simp at hj
    | some w =>
      rw [hz] at hj
      simp at hj
      subst hj
      refine e2.2.2 _ (List.mem_cons_of_mem _ (List.mem_filter.mpr ⟨List.mem_filter.mpr ⟨List.mem_of_getElem? (i := j) (by simp [List.getElem?_mapIdx, hz]), hq2⟩, ?_⟩))
      cases w <;> simp_all [fs_ok, fs_cv, Value.category] <;> omega
