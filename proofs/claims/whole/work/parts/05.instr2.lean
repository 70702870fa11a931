/-! ===== more instructions ===== -/
section FO2
variable {g : fs_G} {μ : fs_I} {d : Nat} {u : Nat × Nat} {Q : Option Value → fs_M → Prop} {pc : Nat} {K K1 K2 : fs_P}
theorem fo_iadd (hd : decode (fs_ic μ) pc = .ok (.iadd, 1)) (h : fs_E g μ d u Q (pc + 1) K) : fs_E g μ d u Q pc (fi_bin (fun x y => x + y) K) := by
  intro ls st M hk p e R s m args below meth c H locs lsA C hS hW hL
  unfold fi_bin at hk
  split at hk
  · rename_i y x r
    exact lv_iadd C.1 C.2.1 hd (h ls _ M hk p e R s m args below meth c H locs lsA C hS hW hL)
  · exact hk.elim
theorem fo_isub (hd : decode (fs_ic μ) pc = .ok (.isub, 1)) (h : fs_E g μ d u Q (pc + 1) K) : fs_E g μ d u Q pc (fi_bin (fun x y => x - y) K) := by
  intro ls st M hk p e R s m args below meth c H locs lsA C hS hW hL
  unfold fi_bin at hk
  split at hk
  · rename_i y x r
    exact lv_isub C.1 C.2.1 hd (h ls _ M hk p e R s m args below meth c H locs lsA C hS hW hL)
  · exact hk.elim
theorem fo_imul (hd : decode (fs_ic μ) pc = .ok (.imul, 1)) (h : fs_E g μ d u Q (pc + 1) K) : fs_E g μ d u Q pc (fi_bin (fun x y => x * y) K) := by
  intro ls st M hk p e R s m args below meth c H locs lsA C hS hW hL
  unfold fi_bin at hk
  split at hk
  · rename_i y x r
    exact lv_imul C.1 C.2.1 hd (h ls _ M hk p e R s m args below meth c H locs lsA C hS hW hL)
  · exact hk.elim
theorem fo_iand (hd : decode (fs_ic μ) pc = .ok (.iand, 1)) (h : fs_E g μ d u Q (pc + 1) K) : fs_E g μ d u Q pc (fi_bin (fun x y => x &&& y) K) := by
  intro ls st M hk p e R s m args below meth c H locs lsA C hS hW hL
  unfold fi_bin at hk
  split at hk
  · rename_i y x r
    exact lv_iand C.1 C.2.1 hd (h ls _ M hk p e R s m args below meth c H locs lsA C hS hW hL)
  · exact hk.elim
theorem fo_ior (hd : decode (fs_ic μ) pc = .ok (.ior, 1)) (h : fs_E g μ d u Q (pc + 1) K) : fs_E g μ d u Q pc (fi_bin (fun x y => x ||| y) K) := by
  intro ls st M hk p e R s m args below meth c H locs lsA C hS hW hL
  unfold fi_bin at hk
  split at hk
  · rename_i y x r
    exact lv_ior C.1 C.2.1 hd (h ls _ M hk p e R s m args below meth c H locs lsA C hS hW hL)
  · exact hk.elim
theorem fo_ixor (hd : decode (fs_ic μ) pc = .ok (.ixor, 1)) (h : fs_E g μ d u Q (pc + 1) K) : fs_E g μ d u Q pc (fi_bin (fun x y => x ^^^ y) K) := by
  intro ls st M hk p e R s m args below meth c H locs lsA C hS hW hL
  unfold fi_bin at hk
  split at hk
  · rename_i y x r
    exact lv_ixor C.1 C.2.1 hd (h ls _ M hk p e R s m args below meth c H locs lsA C hS hW hL)
  · exact hk.elim
theorem fo_ishl (hd : decode (fs_ic μ) pc = .ok (.ishl, 1)) (h : fs_E g μ d u Q (pc + 1) K) : fs_E g μ d u Q pc (fi_bin (fun x y => x <<< (y &&& 31)) K) := by
  intro ls st M hk p e R s m args below meth c H locs lsA C hS hW hL
  unfold fi_bin at hk
  split at hk
  · rename_i y x r
    exact lv_ishl C.1 C.2.1 hd (h ls _ M hk p e R s m args below meth c H locs lsA C hS hW hL)
  · exact hk.elim
theorem fo_ishr (hd : decode (fs_ic μ) pc = .ok (.ishr, 1)) (h : fs_E g μ d u Q (pc + 1) K) : fs_E g μ d u Q pc (fi_bin (fun x y => x >>> (y &&& 31)) K) := by
  intro ls st M hk p e R s m args below meth c H locs lsA C hS hW hL
  unfold fi_bin at hk
  split at hk
  · rename_i y x r
    exact lv_ishr C.1 C.2.1 hd (h ls _ M hk p e R s m args below meth c H locs lsA C hS hW hL)
  · exact hk.elim
theorem fo_idiv (hd : decode (fs_ic μ) pc = .ok (.idiv, 1)) (h : fs_E g μ d u Q (pc + 1) K) : fs_E g μ d u Q pc (fi_div (fun x y => x / y) K) := by
  intro ls st M hk p e R s m args below meth c H locs lsA C hS hW hL
  unfold fi_div at hk
  split at hk
  · rename_i y x r
    exact lv_idiv C.1 C.2.1 hd hk.1 (h ls _ M hk.2 p e R s m args below meth c H locs lsA C hS hW hL)
  · exact hk.elim
theorem fo_irem (hd : decode (fs_ic μ) pc = .ok (.irem, 1)) (h : fs_E g μ d u Q (pc + 1) K) : fs_E g μ d u Q pc (fi_div (fun x y => x % y) K) := by
  intro ls st M hk p e R s m args below meth c H locs lsA C hS hW hL
  unfold fi_div at hk
  split at hk
  · rename_i y x r
    exact lv_irem C.1 C.2.1 hd hk.1 (by rw [irem_eq_mod]; exact h ls _ M hk.2 p e R s m args below meth c H locs lsA C hS hW hL)
  · exact hk.elim
theorem fo_i2b (hd : decode (fs_ic μ) pc = .ok (.i2b, 1)) (h : fs_E g μ d u Q (pc + 1) K) : fs_E g μ d u Q pc (fi_un (fun x => x.toInt8.toInt32) K) := by
  intro ls st M hk p e R s m args below meth c H locs lsA C hS hW hL
  unfold fi_un at hk
  split at hk
  · exact lv_i2b C.1 C.2.1 hd rfl (h ls _ M hk p e R s m args below meth c H locs lsA C hS hW hL)
  · exact hk.elim
theorem fo_i2l (hd : decode (fs_ic μ) pc = .ok (.i2l, 1)) (h : fs_E g μ d u Q (pc + 1) K) : fs_E g μ d u Q pc (fi_i2l K) := by
  intro ls st M hk p e R s m args below meth c H locs lsA C hS hW hL
  unfold fi_i2l at hk
  split at hk
  · exact lv_i2l C.1 C.2.1 hd rfl (h ls _ M hk p e R s m args below meth c H locs lsA C hS hW hL)
  · exact hk.elim
theorem fo_lcmp (hd : decode (fs_ic μ) pc = .ok (.lcmp, 1)) (h : fs_E g μ d u Q (pc + 1) K) : fs_E g μ d u Q pc (fi_lcmp K) := by
  intro ls st M hk p e R s m args below meth c H locs lsA C hS hW hL
  unfold fi_lcmp at hk
  split at hk
  · exact W.lcmp C.1 C.2.1 hd (h ls _ M hk p e R s m args below meth c H locs lsA C hS hW hL)
  · exact hk.elim
theorem fs_cat {g : fs_G} (v : Value) : (fs_cv g v).category = v.category := by cases v <;> rfl
theorem fo_dup (hd : decode (fs_ic μ) pc = .ok (.dup, 1)) (h : fs_E g μ d u Q (pc + 1) K) : fs_E g μ d u Q pc (fi_dup K) := by
  intro ls st M hk p e R s m args below meth c H locs lsA C hS hW hL
  unfold fi_dup at hk
  split at hk
  · exact lv_dup C.1 C.2.1 hd (by rw [fs_cat]; exact hk.1) (h ls _ M hk.2 p e R s m args below meth c H locs lsA C hS hW hL)
  · exact hk.elim
theorem fo_pop (hd : decode (fs_ic μ) pc = .ok (.pop, 1)) (h : fs_E g μ d u Q (pc + 1) K) : fs_E g μ d u Q pc (fi_pop K) := by
  intro ls st M hk p e R s m args below meth c H locs lsA C hS hW hL
  unfold fi_pop at hk
  split at hk
  · exact lv_pop C.1 C.2.1 hd (by rw [fs_cat]; exact hk.1) (h ls _ M hk.2 p e R s m args below meth c H locs lsA C hS hW hL)
  · exact hk.elim
theorem fo_dup2 (hd : decode (fs_ic μ) pc = .ok (.dup2, 1)) (h : fs_E g μ d u Q (pc + 1) K) : fs_E g μ d u Q pc (fi_dup2 K) := by
  intro ls st M hk p e R s m args below meth c H locs lsA C hS hW hL
  unfold fi_dup2 at hk
  split at hk
  · exact lv_dup2_11 C.1 C.2.1 hd (by rw [fs_cat]; exact hk.1) (by rw [fs_cat]; exact hk.2.1) (h ls _ M hk.2.2 p e R s m args below meth c H locs lsA C hS hW hL)
  · exact hk.elim
theorem fo_if_eq {off : Int} {tgt : Nat} (hd : decode (fs_ic μ) pc = .ok (.ifCond .eq off, 3)) (ht : (pc : Int) + off = (tgt : Int)) (h1 : fs_E g μ d u Q tgt K1) (h2 : fs_E g μ d u Q (pc + 3) K2) : fs_E g μ d u Q pc (fi_if (fun x => x = 0) K1 K2) := by
  intro ls st M hk p e R s m args below meth c H locs lsA C hS hW hL
  unfold fi_if at hk
  split at hk
  · exact lv_if_eq C.1 C.2.1 hd ht (fun q => h1 ls _ M (hk.1 q) p e R s m args below meth c H locs lsA C hS hW hL) (fun q => h2 ls _ M (hk.2 q) p e R s m args below meth c H locs lsA C hS hW hL)
  · exact hk.elim
theorem fo_icmp_eq {off : Int} {tgt : Nat} (hd : decode (fs_ic μ) pc = .ok (.if_icmp .eq off, 3)) (ht : (pc : Int) + off = (tgt : Int)) (h1 : fs_E g μ d u Q tgt K1) (h2 : fs_E g μ d u Q (pc + 3) K2) : fs_E g μ d u Q pc (fi_cmp (fun x y => x = y) K1 K2) := by
  intro ls st M hk p e R s m args below meth c H locs lsA C hS hW hL
  unfold fi_cmp at hk
  split at hk
  · exact lv_icmp_eq C.1 C.2.1 hd ht (fun q => h1 ls _ M (hk.1 q) p e R s m args below meth c H locs lsA C hS hW hL) (fun q => h2 ls _ M (hk.2 q) p e R s m args below meth c H locs lsA C hS hW hL)
  · exact hk.elim
theorem fo_if_ne {off : Int} {tgt : Nat} (hd : decode (fs_ic μ) pc = .ok (.ifCond .ne off, 3)) (ht : (pc : Int) + off = (tgt : Int)) (h1 : fs_E g μ d u Q tgt K1) (h2 : fs_E g μ d u Q (pc + 3) K2) : fs_E g μ d u Q pc (fi_if (fun x => x = 0) K2 K1) := by
  intro ls st M hk p e R s m args below meth c H locs lsA C hS hW hL
  unfold fi_if at hk
  split at hk
  · exact lv_if_ne C.1 C.2.1 hd ht (fun q => h1 ls _ M (hk.2 q) p e R s m args below meth c H locs lsA C hS hW hL) (fun q => h2 ls _ M (hk.1 q) p e R s m args below meth c H locs lsA C hS hW hL)
  · exact hk.elim
theorem fo_icmp_ne {off : Int} {tgt : Nat} (hd : decode (fs_ic μ) pc = .ok (.if_icmp .ne off, 3)) (ht : (pc : Int) + off = (tgt : Int)) (h1 : fs_E g μ d u Q tgt K1) (h2 : fs_E g μ d u Q (pc + 3) K2) : fs_E g μ d u Q pc (fi_cmp (fun x y => x = y) K2 K1) := by
  intro ls st M hk p e R s m args below meth c H locs lsA C hS hW hL
  unfold fi_cmp at hk
  split at hk
  · exact lv_icmp_ne C.1 C.2.1 hd ht (fun q => h1 ls _ M (hk.2 q) p e R s m args below meth c H locs lsA C hS hW hL) (fun q => h2 ls _ M (hk.1 q) p e R s m args below meth c H locs lsA C hS hW hL)
  · exact hk.elim
theorem fo_if_lt {off : Int} {tgt : Nat} (hd : decode (fs_ic μ) pc = .ok (.ifCond .lt off, 3)) (ht : (pc : Int) + off = (tgt : Int)) (h1 : fs_E g μ d u Q tgt K1) (h2 : fs_E g μ d u Q (pc + 3) K2) : fs_E g μ d u Q pc (fi_if (fun x => x < 0) K1 K2) := by
  intro ls st M hk p e R s m args below meth c H locs lsA C hS hW hL
  unfold fi_if at hk
  split at hk
  · exact lv_if_lt C.1 C.2.1 hd ht (fun q => h1 ls _ M (hk.1 q) p e R s m args below meth c H locs lsA C hS hW hL) (fun q => h2 ls _ M (hk.2 q) p e R s m args below meth c H locs lsA C hS hW hL)
  · exact hk.elim
theorem fo_icmp_lt {off : Int} {tgt : Nat} (hd : decode (fs_ic μ) pc = .ok (.if_icmp .lt off, 3)) (ht : (pc : Int) + off = (tgt : Int)) (h1 : fs_E g μ d u Q tgt K1) (h2 : fs_E g μ d u Q (pc + 3) K2) : fs_E g μ d u Q pc (fi_cmp (fun x y => x < y) K1 K2) := by
  intro ls st M hk p e R s m args below meth c H locs lsA C hS hW hL
  unfold fi_cmp at hk
  split at hk
  · exact lv_icmp_lt C.1 C.2.1 hd ht (fun q => h1 ls _ M (hk.1 q) p e R s m args below meth c H locs lsA C hS hW hL) (fun q => h2 ls _ M (hk.2 q) p e R s m args below meth c H locs lsA C hS hW hL)
  · exact hk.elim
theorem fo_if_ge {off : Int} {tgt : Nat} (hd : decode (fs_ic μ) pc = .ok (.ifCond .ge off, 3)) (ht : (pc : Int) + off = (tgt : Int)) (h1 : fs_E g μ d u Q tgt K1) (h2 : fs_E g μ d u Q (pc + 3) K2) : fs_E g μ d u Q pc (fi_if (fun x => 0 ≤ x) K1 K2) := by
  intro ls st M hk p e R s m args below meth c H locs lsA C hS hW hL
  unfold fi_if at hk
  split at hk
  · exact lv_if_ge C.1 C.2.1 hd ht (fun q => h1 ls _ M (hk.1 q) p e R s m args below meth c H locs lsA C hS hW hL) (fun q => h2 ls _ M (hk.2 q) p e R s m args below meth c H locs lsA C hS hW hL)
  · exact hk.elim
theorem fo_icmp_ge {off : Int} {tgt : Nat} (hd : decode (fs_ic μ) pc = .ok (.if_icmp .ge off, 3)) (ht : (pc : Int) + off = (tgt : Int)) (h1 : fs_E g μ d u Q tgt K1) (h2 : fs_E g μ d u Q (pc + 3) K2) : fs_E g μ d u Q pc (fi_cmp (fun x y => y ≤ x) K1 K2) := by
  intro ls st M hk p e R s m args below meth c H locs lsA C hS hW hL
  unfold fi_cmp at hk
  split at hk
  · exact lv_icmp_ge C.1 C.2.1 hd ht (fun q => h1 ls _ M (hk.1 q) p e R s m args below meth c H locs lsA C hS hW hL) (fun q => h2 ls _ M (hk.2 q) p e R s m args below meth c H locs lsA C hS hW hL)
  · exact hk.elim
theorem fo_if_gt {off : Int} {tgt : Nat} (hd : decode (fs_ic μ) pc = .ok (.ifCond .gt off, 3)) (ht : (pc : Int) + off = (tgt : Int)) (h1 : fs_E g μ d u Q tgt K1) (h2 : fs_E g μ d u Q (pc + 3) K2) : fs_E g μ d u Q pc (fi_if (fun x => 0 < x) K1 K2) := by
  intro ls st M hk p e R s m args below meth c H locs lsA C hS hW hL
  unfold fi_if at hk
  split at hk
  · exact lv_if_gt C.1 C.2.1 hd ht (fun q => h1 ls _ M (hk.1 q) p e R s m args below meth c H locs lsA C hS hW hL) (fun q => h2 ls _ M (hk.2 q) p e R s m args below meth c H locs lsA C hS hW hL)
  · exact hk.elim
theorem fo_icmp_gt {off : Int} {tgt : Nat} (hd : decode (fs_ic μ) pc = .ok (.if_icmp .gt off, 3)) (ht : (pc : Int) + off = (tgt : Int)) (h1 : fs_E g μ d u Q tgt K1) (h2 : fs_E g μ d u Q (pc + 3) K2) : fs_E g μ d u Q pc (fi_cmp (fun x y => y < x) K1 K2) := by
  intro ls st M hk p e R s m args below meth c H locs lsA C hS hW hL
  unfold fi_cmp at hk
  split at hk
  · exact lv_icmp_gt C.1 C.2.1 hd ht (fun q => h1 ls _ M (hk.1 q) p e R s m args below meth c H locs lsA C hS hW hL) (fun q => h2 ls _ M (hk.2 q) p e R s m args below meth c H locs lsA C hS hW hL)
  · exact hk.elim
theorem fo_if_le {off : Int} {tgt : Nat} (hd : decode (fs_ic μ) pc = .ok (.ifCond .le off, 3)) (ht : (pc : Int) + off = (tgt : Int)) (h1 : fs_E g μ d u Q tgt K1) (h2 : fs_E g μ d u Q (pc + 3) K2) : fs_E g μ d u Q pc (fi_if (fun x => x ≤ 0) K1 K2) := by
  intro ls st M hk p e R s m args below meth c H locs lsA C hS hW hL
  unfold fi_if at hk
  split at hk
  · exact lv_if_le C.1 C.2.1 hd ht (fun q => h1 ls _ M (hk.1 q) p e R s m args below meth c H locs lsA C hS hW hL) (fun q => h2 ls _ M (hk.2 q) p e R s m args below meth c H locs lsA C hS hW hL)
  · exact hk.elim
theorem fo_icmp_le {off : Int} {tgt : Nat} (hd : decode (fs_ic μ) pc = .ok (.if_icmp .le off, 3)) (ht : (pc : Int) + off = (tgt : Int)) (h1 : fs_E g μ d u Q tgt K1) (h2 : fs_E g μ d u Q (pc + 3) K2) : fs_E g μ d u Q pc (fi_cmp (fun x y => x ≤ y) K1 K2) := by
  intro ls st M hk p e R s m args below meth c H locs lsA C hS hW hL
  unfold fi_cmp at hk
  split at hk
  · exact lv_icmp_le C.1 C.2.1 hd ht (fun q => h1 ls _ M (hk.1 q) p e R s m args below meth c H locs lsA C hS hW hL) (fun q => h2 ls _ M (hk.2 q) p e R s m args below meth c H locs lsA C hS hW hL)
  · exact hk.elim
theorem fo_goto {off : Int} {tgt : Nat} (hd : decode (fs_ic μ) pc = .ok (.goto off, 3)) (ht : (pc : Int) + off = (tgt : Int)) (h1 : fs_E g μ d u Q tgt K) : fs_E g μ d u Q pc K := by
  intro ls st M hk p e R s m args below meth c H locs lsA C hS hW hL
  exact lv_goto C.1 C.2.1 hd ht (h1 ls _ M hk p e R s m args below meth c H locs lsA C hS hW hL)
end FO2
