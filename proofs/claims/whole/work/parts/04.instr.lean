/-! ===== INSTRUCTIONS: fi_ what an instruction asks and does, fo_ that it is so ===== -/
abbrev fs_P : Type := List Value → List Value → fs_M → Prop
/-- K is enough at pc -/
def fs_E (g : fs_G) (μ : fs_I) (d : Nat) (u : Nat × Nat) (Q : Option Value → fs_M → Prop) (pc : Nat) (K : fs_P) : Prop := ∀ ls st M, K ls st M → fs_R g μ d u pc ls st M Q
def fi_const (v : Int32) (K : fs_P) : fs_P := fun ls st M => K ls (.int v :: st) M
def fi_iload (i : Nat) (K : fs_P) : fs_P := fun ls st M => match ls[i]? with | some (.int x) => K ls (.int x :: st) M | _ => False
def fi_aload (i : Nat) (K : fs_P) : fs_P := fun ls st M => match ls[i]? with | some (.ref x) => K ls (.ref x :: st) M | _ => False
def fi_istore (i : Nat) (K : fs_P) : fs_P := fun ls st M => match st with | .int x :: r => K (ls.set i (.int x)) r M | _ => False
def fi_astore (i : Nat) (K : fs_P) : fs_P := fun ls st M => match st with | .ref x :: r => K (ls.set i (.ref x)) r M | _ => False
def fi_iinc (i : Nat) (n : Int32) (K : fs_P) : fs_P := fun ls st M => match ls[i]? with | some (.int x) => K (ls.set i (.int (x + n))) st M | _ => False
def fi_bin (f : Int32 → Int32 → Int32) (K : fs_P) : fs_P := fun ls st M => match st with | .int y :: .int x :: r => K ls (.int (f x y) :: r) M | _ => False
def fi_div (f : Int32 → Int32 → Int32) (K : fs_P) : fs_P := fun ls st M => match st with | .int y :: .int x :: r => ¬ y = 0 ∧ K ls (.int (f x y) :: r) M | _ => False
def fi_un (f : Int32 → Int32) (K : fs_P) : fs_P := fun ls st M => match st with | .int x :: r => K ls (.int (f x) :: r) M | _ => False
def fi_dup (K : fs_P) : fs_P := fun ls st M => match st with | v :: r => v.category = 1 ∧ K ls (v :: v :: r) M | _ => False
def fi_dup2 (K : fs_P) : fs_P := fun ls st M => match st with | v :: w :: r => v.category = 1 ∧ w.category = 1 ∧ K ls (v :: w :: v :: w :: r) M | _ => False
def fi_pop (K : fs_P) : fs_P := fun ls st M => match st with | v :: r => v.category = 1 ∧ K ls r M | _ => False
def fi_if (c : Int32 → Prop) (K1 K2 : fs_P) : fs_P := fun ls st M => match st with | .int x :: r => (c x → K1 ls r M) ∧ (¬ c x → K2 ls r M) | _ => False
def fi_cmp (c : Int32 → Int32 → Prop) (K1 K2 : fs_P) : fs_P := fun ls st M => match st with | .int y :: .int x :: r => (c x y → K1 ls r M) ∧ (¬ c x y → K2 ls r M) | _ => False
def fi_i2l (K : fs_P) : fs_P := fun ls st M => match st with | .int x :: r => K ls (.long x.toInt64 :: r) M | _ => False
def fi_lconst (v : Int64) (K : fs_P) : fs_P := fun ls st M => K ls (.long v :: st) M
def fi_lcmp (K : fs_P) : fs_P := fun ls st M => match st with | .long y :: .long x :: r => K ls (.int (lg_cmp x y) :: r) M | _ => False
def fi_getf (ci j : Nat) (K : fs_P) : fs_P := fun ls st M => match st with
  | .ref k :: r => (match M.1.1[k]? with
    | some (.inr (c, rs)) => c = ci ∧ (match rs[j]? with
      | some none => K ls (.int (M.2.1 k j) :: r) M
      | some (some (some q)) => K ls (.ref q :: r) M
      | _ => False)
    | _ => False)
  | _ => False
/-- a number into a field; z: a boolean field -/
def fi_putf (z : Bool) (ci j : Nat) (K : fs_P) : fs_P := fun ls st M => match st with
  | .int x :: .ref k :: r => (match M.1.1[k]? with
    | some (.inr (c, rs)) => c = ci ∧ rs[j]? = some none ∧ (z = true → x = 0 ∨ x = 1) ∧ K ls r (M.1, fs_u M.2.1 k j x, M.2.2)
    | _ => False)
  | _ => False
/-- a cell into a field -/
def fi_putr (ci j : Nat) (K : fs_P) : fs_P := fun ls st M => match st with
  | .ref q :: .ref k :: r => (match M.1.1[k]? with
    | some (.inr (c, rs)) => c = ci ∧ j < rs.length ∧ K ls r ((M.1.1.set k (.inr (c, rs.set j (some (some q)))), M.1.2), M.2.1, M.2.2)
    | _ => False)
  | _ => False
def fi_ald (ty : FieldType) (K : fs_P) : fs_P := fun ls st M => match st with
  | .int i :: .ref k :: r => (match M.1.1[k]? with
    | some (.inl (t, n)) => t = ty ∧ vp_in i n ∧ K ls (.int (M.2.1 k i.toNatClampNeg) :: r) M
    | _ => False)
  | _ => False
def fi_ast (ty : FieldType) (K : fs_P) : fs_P := fun ls st M => match st with
  | .int x :: .int i :: .ref k :: r => (match M.1.1[k]? with
    | some (.inl (t, n)) => t = ty ∧ vp_in i n ∧ K ls r (M.1, fs_u M.2.1 k i.toNatClampNeg (vp_nar ty x), M.2.2)
    | _ => False)
  | _ => False
def fi_lald (K : fs_P) : fs_P := fun ls st M => match st with
  | .int i :: .ref k :: r => (match M.1.1[k]? with
    | some (.inl (t, n)) => t = .long ∧ vp_in i n ∧ K ls (.long (M.2.2 k i.toNatClampNeg) :: r) M
    | _ => False)
  | _ => False
def fi_last (K : fs_P) : fs_P := fun ls st M => match st with
  | .long x :: .int i :: .ref k :: r => (match M.1.1[k]? with
    | some (.inl (t, n)) => t = .long ∧ vp_in i n ∧ K ls r (M.1, M.2.1, fs_uL M.2.2 k i.toNatClampNeg x)
    | _ => False)
  | _ => False
def fi_alen (K : fs_P) : fs_P := fun ls st M => match st with
  | .ref k :: r => (match M.1.1[k]? with
    | some (.inl (t, n)) => (t = .int ∨ t = .byte) ∧ K ls (.int (nI n) :: r) M
    | _ => False)
  | _ => False
section FO
variable {g : fs_G} {μ : fs_I} {d : Nat} {u : Nat × Nat} {Q : Option Value → fs_M → Prop} {pc : Nat} {K K1 K2 : fs_P}
theorem fo_iconst {n : Int} {v : Int32} (hd : decode (fs_ic μ) pc = .ok (.iconst n, 1)) (hv : Int32.ofInt n = v) (h : fs_E g μ d u Q (pc + 1) K) : fs_E g μ d u Q pc (fi_const v K) := by
  intro ls st M hk p e R s m args below meth c H locs lsA C hS hW hL
  exact lv_iconst C.1 C.2.1 hd hv (h ls (.int v :: st) M hk p e R s m args below meth c H locs lsA C hS hW hL)
theorem fo_bipush {n : Int} {v : Int32} (hd : decode (fs_ic μ) pc = .ok (.bipush n, 2)) (hv : (Int8.ofInt n).toInt32 = v) (h : fs_E g μ d u Q (pc + 2) K) : fs_E g μ d u Q pc (fi_const v K) := by
  intro ls st M hk p e R s m args below meth c H locs lsA C hS hW hL
  exact lv_bipush C.1 C.2.1 hd hv (h ls (.int v :: st) M hk p e R s m args below meth c H locs lsA C hS hW hL)
theorem fo_sipush {n : Int} {v : Int32} (hd : decode (fs_ic μ) pc = .ok (.sipush n, 3)) (hv : (Int16.ofInt n).toInt32 = v) (h : fs_E g μ d u Q (pc + 3) K) : fs_E g μ d u Q pc (fi_const v K) := by
  intro ls st M hk p e R s m args below meth c H locs lsA C hS hW hL
  exact lv_sipush C.1 C.2.1 hd hv (h ls (.int v :: st) M hk p e R s m args below meth c H locs lsA C hS hW hL)
theorem fo_ldc {index : Nat} {v : Int32} (hc : Cond.constant (fs_iy μ).cls index v ∈ fs_tb) (hd : decode (fs_ic μ) pc = .ok (.ldc index, 2)) (h : fs_E g μ d u Q (pc + 2) K) : fs_E g μ d u Q pc (fi_const v K) := by
  intro ls st M hk p e R s m args below meth c H locs lsA C hS hW hL
  exact lv_ldc C.1 C.2.1 C.2.2.2.2.2.1 (C.2.2.2.2.2.2.1 _ hc) hd (h ls (.int v :: st) M hk p e R s m args below meth c H locs lsA C hS hW hL)
theorem fo_lconst {n : Fin 2} {v : Int64} (hd : decode (fs_ic μ) pc = .ok (.lconst n, 1)) (hv : Int64.ofNat (n : Nat) = v) (h : fs_E g μ d u Q (pc + 1) K) : fs_E g μ d u Q pc (fi_lconst v K) := by
  intro ls st M hk p e R s m args below meth c H locs lsA C hS hW hL
  exact lv_lconst C.1 C.2.1 hd hv (h ls (.long v :: st) M hk p e R s m args below meth c H locs lsA C hS hW hL)
theorem fo_iload {i : Nat} (hd : decode (fs_ic μ) pc = .ok (.iload i, 2)) (h : fs_E g μ d u Q (pc + 2) K) : fs_E g μ d u Q pc (fi_iload i K) := by
  intro ls st M hk p e R s m args below meth c H locs lsA C hS hW hL
  unfold fi_iload at hk
  split at hk
  · rename_i x hx
    exact lv_iload C.1 C.2.1 hd (fs_lv_at hL hx rfl) (h ls (.int x :: st) M hk p e R s m args below meth c H locs lsA C hS hW hL)
  · exact hk.elim
theorem fo_iload_n {k : Fin 4} {i : Nat} (hd : decode (fs_ic μ) pc = .ok (.iload_n k, 1)) (hi : (k : Nat) = i) (h : fs_E g μ d u Q (pc + 1) K) : fs_E g μ d u Q pc (fi_iload i K) := by
  intro ls st M hk p e R s m args below meth c H locs lsA C hS hW hL
  unfold fi_iload at hk
  split at hk
  · rename_i x hx
    exact lv_iload_n C.1 C.2.1 hd hi (fs_lv_at hL hx rfl) (h ls (.int x :: st) M hk p e R s m args below meth c H locs lsA C hS hW hL)
  · exact hk.elim
theorem fo_aload {i : Nat} (hd : decode (fs_ic μ) pc = .ok (.aload i, 2)) (h : fs_E g μ d u Q (pc + 2) K) : fs_E g μ d u Q pc (fi_aload i K) := by
  intro ls st M hk p e R s m args below meth c H locs lsA C hS hW hL
  unfold fi_aload at hk
  split at hk
  · rename_i x hx
    exact lv_aload C.1 C.2.1 hd (fs_lv_at hL hx rfl) (h ls (.ref x :: st) M hk p e R s m args below meth c H locs lsA C hS hW hL)
  · exact hk.elim
theorem fo_aload_n {k : Fin 4} {i : Nat} (hd : decode (fs_ic μ) pc = .ok (.aload_n k, 1)) (hi : (k : Nat) = i) (h : fs_E g μ d u Q (pc + 1) K) : fs_E g μ d u Q pc (fi_aload i K) := by
  intro ls st M hk p e R s m args below meth c H locs lsA C hS hW hL
  unfold fi_aload at hk
  split at hk
  · rename_i x hx
    exact lv_aload_n C.1 C.2.1 hd hi (fs_lv_at hL hx rfl) (h ls (.ref x :: st) M hk p e R s m args below meth c H locs lsA C hS hW hL)
  · exact hk.elim
theorem fo_istore {i : Nat} (hd : decode (fs_ic μ) pc = .ok (.istore i, 2)) (hi : i < fs_iL μ) (h : fs_E g μ d u Q (pc + 2) K) : fs_E g μ d u Q pc (fi_istore i K) := by
  intro ls st M hk p e R s m args below meth c H locs lsA C hS hW hL
  unfold fi_istore at hk
  split at hk
  · rename_i x r
    obtain ⟨lsB, e1, e2⟩ := fs_L_set (v := .int x) hL hi rfl
    intro T hT X
    obtain ⟨t, a, b⟩ := h _ _ M hk p e R s m args below meth c H locs lsB C hS hW e2 T hT X
    refine ⟨t, ?_, b⟩
    have hexec := C.1
    have hb := C.2.1
    simp only [fs_cv] at e1
    jvm_step X.here [X.here.top, ↓top_set X.here.top, hexec, hb, hd, fs_cv, e1]
    exact a
  · exact hk.elim
theorem fo_istore_n {k : Fin 4} {i : Nat} (hd : decode (fs_ic μ) pc = .ok (.istore_n k, 1)) (hk0 : (k : Nat) = i) (hi : i < fs_iL μ) (h : fs_E g μ d u Q (pc + 1) K) : fs_E g μ d u Q pc (fi_istore i K) := by
  subst hk0
  intro ls st M hk p e R s m args below meth c H locs lsA C hS hW hL
  unfold fi_istore at hk
  split at hk
  · rename_i x r
    obtain ⟨lsB, e1, e2⟩ := fs_L_set (v := .int x) hL hi rfl
    intro T hT X
    obtain ⟨t, a, b⟩ := h _ _ M hk p e R s m args below meth c H locs lsB C hS hW e2 T hT X
    refine ⟨t, ?_, b⟩
    have hexec := C.1
    have hb := C.2.1
    simp only [fs_cv] at e1
    jvm_step X.here [X.here.top, ↓top_set X.here.top, hexec, hb, hd, fs_cv, e1]
    exact a
  · exact hk.elim
theorem fo_astore {i : Nat} (hd : decode (fs_ic μ) pc = .ok (.astore i, 2)) (hi : i < fs_iL μ) (h : fs_E g μ d u Q (pc + 2) K) : fs_E g μ d u Q pc (fi_astore i K) := by
  intro ls st M hk p e R s m args below meth c H locs lsA C hS hW hL
  unfold fi_astore at hk
  split at hk
  · rename_i x r
    obtain ⟨lsB, e1, e2⟩ := fs_L_set (v := .ref x) hL hi rfl
    intro T hT X
    obtain ⟨t, a, b⟩ := h _ _ M hk p e R s m args below meth c H locs lsB C hS hW e2 T hT X
    refine ⟨t, ?_, b⟩
    have hexec := C.1
    have hb := C.2.1
    simp only [fs_cv] at e1
    jvm_step X.here [X.here.top, ↓top_set X.here.top, hexec, hb, hd, fs_cv, e1]
    exact ⟨rfl, a⟩
  · exact hk.elim
theorem fo_astore_n {k : Fin 4} {i : Nat} (hd : decode (fs_ic μ) pc = .ok (.astore_n k, 1)) (hk0 : (k : Nat) = i) (hi : i < fs_iL μ) (h : fs_E g μ d u Q (pc + 1) K) : fs_E g μ d u Q pc (fi_astore i K) := by
  subst hk0
  intro ls st M hk p e R s m args below meth c H locs lsA C hS hW hL
  unfold fi_astore at hk
  split at hk
  · rename_i x r
    obtain ⟨lsB, e1, e2⟩ := fs_L_set (v := .ref x) hL hi rfl
    intro T hT X
    obtain ⟨t, a, b⟩ := h _ _ M hk p e R s m args below meth c H locs lsB C hS hW e2 T hT X
    refine ⟨t, ?_, b⟩
    have hexec := C.1
    have hb := C.2.1
    simp only [fs_cv] at e1
    jvm_step X.here [X.here.top, ↓top_set X.here.top, hexec, hb, hd, fs_cv, e1]
    exact ⟨rfl, a⟩
  · exact hk.elim
theorem fo_iinc {i : Nat} {n : Int} {v : Int32} (hd : decode (fs_ic μ) pc = .ok (.iinc i n, 3)) (hv : Int32.ofInt n = v) (hi : i < fs_iL μ) (h : fs_E g μ d u Q (pc + 3) K) : fs_E g μ d u Q pc (fi_iinc i v K) := by
  subst hv
  intro ls st M hk p e R s m args below meth c H locs lsA C hS hW hL
  unfold fi_iinc at hk
  split at hk
  · rename_i x hx
    obtain ⟨lsB, e1, e2⟩ := fs_L_set (v := .int (x + Int32.ofInt n)) hL hi rfl
    have hg := fs_lv_at hL hx rfl
    intro T hT X
    obtain ⟨t, a, b⟩ := h _ _ M hk p e R s m args below meth c H locs lsB C hS hW e2 T hT X
    refine ⟨t, ?_, b⟩
    have hexec := C.1
    have hb := C.2.1
    simp only [fs_cv] at e1 hg
    jvm_step X.here [X.here.top, ↓top_set X.here.top, hexec, hb, hd, hg, e1]
    exact a
  · exact hk.elim
end FO
