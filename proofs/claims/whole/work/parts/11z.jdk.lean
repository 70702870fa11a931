/-! ===== texts: the JDK's own methods on the constants ===== -/
theorem z_101 : Cond.initialized "java/lang/String" ∈ fs_tb := fs_in 101 (by decide +kernel) rfl
theorem z_102 : Cond.initialized "java/lang/StringLatin1" ∈ fs_tb := fs_in 102 (by decide +kernel) rfl
theorem z_103 : Cond.initialized "jdk/internal/util/Preconditions" ∈ fs_tb := fs_in 103 (by decide +kernel) rfl
theorem z_505 : Cond.instanceMethod ⟨"java/lang/String", "length", "()I"⟩ ∈ fs_tb := fs_in 505 (by decide +kernel) rfl
theorem z_506 : Cond.selects "java/lang/String" ⟨"java/lang/String", "length", "()I"⟩ ⟨"java/lang/String", "length", "()I"⟩ ∈ fs_tb := fs_in 506 (by decide +kernel) rfl
theorem z_507 : Cond.code ⟨"java/lang/String", "length", "()I"⟩ prog_17_method_54_code 1 (some .int) ∈ fs_tb := fs_in 507 (by decide +kernel) rfl
theorem z_508 : Cond.methodLink "java/lang/String" 335 ⟨"java/lang/String", "coder", "()B"⟩ ∈ fs_tb := fs_in 508 (by decide +kernel) rfl
theorem z_509 : Cond.instanceMethod ⟨"java/lang/String", "coder", "()B"⟩ ∈ fs_tb := fs_in 509 (by decide +kernel) rfl
theorem z_510 : Cond.selects "java/lang/String" ⟨"java/lang/String", "coder", "()B"⟩ ⟨"java/lang/String", "coder", "()B"⟩ ∈ fs_tb := fs_in 510 (by decide +kernel) rfl
theorem z_511 : Cond.code ⟨"java/lang/String", "coder", "()B"⟩ prog_17_method_152_code 1 (some .byte) ∈ fs_tb := fs_in 511 (by decide +kernel) rfl
theorem z_512 : Cond.fieldLink "java/lang/String" 38 "java/lang/String" "COMPACT_STRINGS" "Z" ∈ fs_tb := fs_in 512 (by decide +kernel) rfl
theorem z_515 : Cond.instanceMethod ⟨"java/lang/String", "charAt", "(I)C"⟩ ∈ fs_tb := fs_in 515 (by decide +kernel) rfl
theorem z_516 : Cond.selects "java/lang/String" ⟨"java/lang/String", "charAt", "(I)C"⟩ ⟨"java/lang/String", "charAt", "(I)C"⟩ ∈ fs_tb := fs_in 516 (by decide +kernel) rfl
theorem z_517 : Cond.code ⟨"java/lang/String", "charAt", "(I)C"⟩ prog_17_method_56_code 2 (some .char) ∈ fs_tb := fs_in 517 (by decide +kernel) rfl
theorem z_518 : Cond.methodLink "java/lang/String" 492 ⟨"java/lang/String", "isLatin1", "()Z"⟩ ∈ fs_tb := fs_in 518 (by decide +kernel) rfl
theorem z_519 : Cond.instanceMethod ⟨"java/lang/String", "isLatin1", "()Z"⟩ ∈ fs_tb := fs_in 519 (by decide +kernel) rfl
theorem z_520 : Cond.selects "java/lang/String" ⟨"java/lang/String", "isLatin1", "()Z"⟩ ⟨"java/lang/String", "isLatin1", "()Z"⟩ ∈ fs_tb := fs_in 520 (by decide +kernel) rfl
theorem z_521 : Cond.code ⟨"java/lang/String", "isLatin1", "()Z"⟩ prog_17_method_154_code 1 (some .boolean) ∈ fs_tb := fs_in 521 (by decide +kernel) rfl
theorem z_522 : Cond.methodLink "java/lang/String" 495 ⟨"java/lang/StringLatin1", "charAt", "([BI)C"⟩ ∈ fs_tb := fs_in 522 (by decide +kernel) rfl
theorem z_523 : Cond.static ⟨"java/lang/StringLatin1", "charAt", "([BI)C"⟩ ∈ fs_tb := fs_in 523 (by decide +kernel) rfl
theorem z_524 : Cond.code ⟨"java/lang/StringLatin1", "charAt", "([BI)C"⟩ prog_18_method_2_code 2 (some .char) ∈ fs_tb := fs_in 524 (by decide +kernel) rfl
theorem z_525 : Cond.methodLink "java/lang/StringLatin1" 9 ⟨"java/lang/String", "checkIndex", "(II)V"⟩ ∈ fs_tb := fs_in 525 (by decide +kernel) rfl
theorem z_526 : Cond.static ⟨"java/lang/String", "checkIndex", "(II)V"⟩ ∈ fs_tb := fs_in 526 (by decide +kernel) rfl
theorem z_527 : Cond.code ⟨"java/lang/String", "checkIndex", "(II)V"⟩ prog_17_method_155_code 2 (none : Option Jvm.ClassFile.FieldType) ∈ fs_tb := fs_in 527 (by decide +kernel) rfl
theorem z_528 : Cond.fieldLink "java/lang/String" 1053 "jdk/internal/util/Preconditions" "SIOOBE_FORMATTER" "Ljava/util/function/BiFunction;" ∈ fs_tb := fs_in 528 (by decide +kernel) rfl
theorem z_530 : Cond.methodLink "java/lang/String" 1059 ⟨"jdk/internal/util/Preconditions", "checkIndex", "(IILjava/util/function/BiFunction;)I"⟩ ∈ fs_tb := fs_in 530 (by decide +kernel) rfl
theorem z_531 : Cond.static ⟨"jdk/internal/util/Preconditions", "checkIndex", "(IILjava/util/function/BiFunction;)I"⟩ ∈ fs_tb := fs_in 531 (by decide +kernel) rfl
theorem z_532 : Cond.code ⟨"jdk/internal/util/Preconditions", "checkIndex", "(IILjava/util/function/BiFunction;)I"⟩ prog_23_method_11_code 3 (some .int) ∈ fs_tb := fs_in 532 (by decide +kernel) rfl
theorem z_1736 : Cond.fieldLink "java/lang/String" 9 "java/lang/String" "value" "[B" ∈ fs_tb := fs_in 1736 (by decide +kernel) rfl
theorem z_1737 : Cond.fieldLink "java/lang/String" 15 "java/lang/String" "coder" "B" ∈ fs_tb := fs_in 1737 (by decide +kernel) rfl
def m_J0_length_8abf5 : fs_I := (yJ0_length_8abf5, cJ0_length_8abf5, 1, some .int, 0, 0, 1)
def m_J0_charAt_5068e : fs_I := (yJ0_charAt_5068e, cJ0_charAt_5068e, 2, some .char, 0, 0, 3)
def m_J0_coder_7d493 : fs_I := (yJ0_coder_7d493, cJ0_coder_7d493, 1, some .byte, 0, 0, 0)
def m_J0_isLatin1_aae02 : fs_I := (yJ0_isLatin1_aae02, cJ0_isLatin1_aae02, 1, some .boolean, 0, 0, 0)
def m_J0_checkIndex_df160 : fs_I := (yJ0_checkIndex_df160, cJ0_checkIndex_df160, 2, none, 0, 0, 1)
def m_J1_charAt_3b067 : fs_I := (yJ1_charAt_3b067, cJ1_charAt_3b067, 2, some .char, 0, 0, 2)
def m_J3_checkIndex_8e157 : fs_I := (yJ3_checkIndex_8e157, cJ3_checkIndex_8e157, 3, some .int, 0, 0, 0)
theorem dJ0_length_8abf5_0 : decode cJ0_length_8abf5 0 = .ok (.aload_n 0, 1) := by decide +kernel
theorem dJ0_length_8abf5_1 : decode cJ0_length_8abf5 1 = .ok (.getfield 9, 3) := by decide +kernel
theorem dJ0_length_8abf5_4 : decode cJ0_length_8abf5 4 = .ok (.arraylength, 1) := by decide +kernel
theorem dJ0_length_8abf5_5 : decode cJ0_length_8abf5 5 = .ok (.aload_n 0, 1) := by decide +kernel
theorem dJ0_length_8abf5_6 : decode cJ0_length_8abf5 6 = .ok (.invokevirtual 335, 3) := by decide +kernel
theorem dJ0_length_8abf5_9 : decode cJ0_length_8abf5 9 = .ok (.ishr, 1) := by decide +kernel
theorem dJ0_length_8abf5_10 : decode cJ0_length_8abf5 10 = .ok (.ireturn, 1) := by decide +kernel
theorem dJ0_charAt_5068e_0 : decode cJ0_charAt_5068e 0 = .ok (.aload_n 0, 1) := by decide +kernel
theorem dJ0_charAt_5068e_1 : decode cJ0_charAt_5068e 1 = .ok (.invokevirtual 492, 3) := by decide +kernel
theorem dJ0_charAt_5068e_4 : decode cJ0_charAt_5068e 4 = .ok (.ifCond .eq 12, 3) := by decide +kernel
theorem dJ0_charAt_5068e_7 : decode cJ0_charAt_5068e 7 = .ok (.aload_n 0, 1) := by decide +kernel
theorem dJ0_charAt_5068e_8 : decode cJ0_charAt_5068e 8 = .ok (.getfield 9, 3) := by decide +kernel
theorem dJ0_charAt_5068e_11 : decode cJ0_charAt_5068e 11 = .ok (.iload_n 1, 1) := by decide +kernel
theorem dJ0_charAt_5068e_12 : decode cJ0_charAt_5068e 12 = .ok (.invokestatic 495, 3) := by decide +kernel
theorem dJ0_charAt_5068e_15 : decode cJ0_charAt_5068e 15 = .ok (.ireturn, 1) := by decide +kernel
theorem dJ0_charAt_5068e_16 : decode cJ0_charAt_5068e 16 = .ok (.aload_n 0, 1) := by decide +kernel
theorem dJ0_charAt_5068e_17 : decode cJ0_charAt_5068e 17 = .ok (.getfield 9, 3) := by decide +kernel
theorem dJ0_charAt_5068e_20 : decode cJ0_charAt_5068e 20 = .ok (.iload_n 1, 1) := by decide +kernel
theorem dJ0_charAt_5068e_21 : decode cJ0_charAt_5068e 21 = .ok (.invokestatic 498, 3) := by decide +kernel
theorem dJ0_charAt_5068e_24 : decode cJ0_charAt_5068e 24 = .ok (.ireturn, 1) := by decide +kernel
theorem dJ0_coder_7d493_0 : decode cJ0_coder_7d493 0 = .ok (.getstatic 38, 3) := by decide +kernel
theorem dJ0_coder_7d493_3 : decode cJ0_coder_7d493 3 = .ok (.ifCond .eq 10, 3) := by decide +kernel
theorem dJ0_coder_7d493_6 : decode cJ0_coder_7d493 6 = .ok (.aload_n 0, 1) := by decide +kernel
theorem dJ0_coder_7d493_7 : decode cJ0_coder_7d493 7 = .ok (.getfield 15, 3) := by decide +kernel
theorem dJ0_coder_7d493_10 : decode cJ0_coder_7d493 10 = .ok (.goto 4, 3) := by decide +kernel
theorem dJ0_coder_7d493_13 : decode cJ0_coder_7d493 13 = .ok (.iconst 1, 1) := by decide +kernel
theorem dJ0_coder_7d493_14 : decode cJ0_coder_7d493 14 = .ok (.ireturn, 1) := by decide +kernel
theorem dJ0_isLatin1_aae02_0 : decode cJ0_isLatin1_aae02 0 = .ok (.getstatic 38, 3) := by decide +kernel
theorem dJ0_isLatin1_aae02_3 : decode cJ0_isLatin1_aae02 3 = .ok (.ifCond .eq 14, 3) := by decide +kernel
theorem dJ0_isLatin1_aae02_6 : decode cJ0_isLatin1_aae02 6 = .ok (.aload_n 0, 1) := by decide +kernel
theorem dJ0_isLatin1_aae02_7 : decode cJ0_isLatin1_aae02 7 = .ok (.getfield 15, 3) := by decide +kernel
theorem dJ0_isLatin1_aae02_10 : decode cJ0_isLatin1_aae02 10 = .ok (.ifCond .ne 7, 3) := by decide +kernel
theorem dJ0_isLatin1_aae02_13 : decode cJ0_isLatin1_aae02 13 = .ok (.iconst 1, 1) := by decide +kernel
theorem dJ0_isLatin1_aae02_14 : decode cJ0_isLatin1_aae02 14 = .ok (.goto 4, 3) := by decide +kernel
theorem dJ0_isLatin1_aae02_17 : decode cJ0_isLatin1_aae02 17 = .ok (.iconst 0, 1) := by decide +kernel
theorem dJ0_isLatin1_aae02_18 : decode cJ0_isLatin1_aae02 18 = .ok (.ireturn, 1) := by decide +kernel
theorem dJ0_checkIndex_df160_0 : decode cJ0_checkIndex_df160 0 = .ok (.iload_n 0, 1) := by decide +kernel
theorem dJ0_checkIndex_df160_1 : decode cJ0_checkIndex_df160 1 = .ok (.iload_n 1, 1) := by decide +kernel
theorem dJ0_checkIndex_df160_2 : decode cJ0_checkIndex_df160 2 = .ok (.getstatic 1053, 3) := by decide +kernel
theorem dJ0_checkIndex_df160_5 : decode cJ0_checkIndex_df160 5 = .ok (.invokestatic 1059, 3) := by decide +kernel
theorem dJ0_checkIndex_df160_8 : decode cJ0_checkIndex_df160 8 = .ok (.pop, 1) := by decide +kernel
theorem dJ0_checkIndex_df160_9 : decode cJ0_checkIndex_df160 9 = .ok (.return_, 1) := by decide +kernel
theorem dJ1_charAt_3b067_0 : decode cJ1_charAt_3b067 0 = .ok (.iload_n 1, 1) := by decide +kernel
theorem dJ1_charAt_3b067_1 : decode cJ1_charAt_3b067 1 = .ok (.aload_n 0, 1) := by decide +kernel
theorem dJ1_charAt_3b067_2 : decode cJ1_charAt_3b067 2 = .ok (.arraylength, 1) := by decide +kernel
theorem dJ1_charAt_3b067_3 : decode cJ1_charAt_3b067 3 = .ok (.invokestatic 9, 3) := by decide +kernel
theorem dJ1_charAt_3b067_6 : decode cJ1_charAt_3b067 6 = .ok (.aload_n 0, 1) := by decide +kernel
theorem dJ1_charAt_3b067_7 : decode cJ1_charAt_3b067 7 = .ok (.iload_n 1, 1) := by decide +kernel
theorem dJ1_charAt_3b067_8 : decode cJ1_charAt_3b067 8 = .ok (.baload, 1) := by decide +kernel
theorem dJ1_charAt_3b067_9 : decode cJ1_charAt_3b067 9 = .ok (.sipush 255, 3) := by decide +kernel
theorem dJ1_charAt_3b067_12 : decode cJ1_charAt_3b067 12 = .ok (.iand, 1) := by decide +kernel
theorem dJ1_charAt_3b067_13 : decode cJ1_charAt_3b067 13 = .ok (.i2c, 1) := by decide +kernel
theorem dJ1_charAt_3b067_14 : decode cJ1_charAt_3b067 14 = .ok (.ireturn, 1) := by decide +kernel
theorem dJ3_checkIndex_8e157_0 : decode cJ3_checkIndex_8e157 0 = .ok (.iload_n 0, 1) := by decide +kernel
theorem dJ3_checkIndex_8e157_1 : decode cJ3_checkIndex_8e157 1 = .ok (.ifCond .lt 8, 3) := by decide +kernel
theorem dJ3_checkIndex_8e157_4 : decode cJ3_checkIndex_8e157 4 = .ok (.iload_n 0, 1) := by decide +kernel
theorem dJ3_checkIndex_8e157_5 : decode cJ3_checkIndex_8e157 5 = .ok (.iload_n 1, 1) := by decide +kernel
theorem dJ3_checkIndex_8e157_6 : decode cJ3_checkIndex_8e157 6 = .ok (.if_icmp .lt 10, 3) := by decide +kernel
theorem dJ3_checkIndex_8e157_9 : decode cJ3_checkIndex_8e157 9 = .ok (.aload_n 2, 1) := by decide +kernel
theorem dJ3_checkIndex_8e157_10 : decode cJ3_checkIndex_8e157 10 = .ok (.iload_n 0, 1) := by decide +kernel
theorem dJ3_checkIndex_8e157_11 : decode cJ3_checkIndex_8e157 11 = .ok (.iload_n 1, 1) := by decide +kernel
theorem dJ3_checkIndex_8e157_12 : decode cJ3_checkIndex_8e157 12 = .ok (.invokestatic 95, 3) := by decide +kernel
theorem dJ3_checkIndex_8e157_15 : decode cJ3_checkIndex_8e157 15 = .ok (.athrow, 1) := by decide +kernel
theorem dJ3_checkIndex_8e157_16 : decode cJ3_checkIndex_8e157 16 = .ok (.iload_n 0, 1) := by decide +kernel
theorem dJ3_checkIndex_8e157_17 : decode cJ3_checkIndex_8e157 17 = .ok (.ireturn, 1) := by decide +kernel
theorem ms_J0_checkIndex : fs_mS m_J0_checkIndex_df160 2 := ⟨⟨z_527, z_101, ⟨by decide +kernel, by decide +kernel, by decide +kernel⟩, Nat.le_of_ble_eq_true rfl⟩, z_526⟩
theorem ms_J1_charAt : fs_mS m_J1_charAt_3b067 2 := ⟨⟨z_524, z_102, ⟨by decide +kernel, by decide +kernel, by decide +kernel⟩, Nat.le_of_ble_eq_true rfl⟩, z_523⟩
theorem ms_J3_checkIndex : fs_mS m_J3_checkIndex_8e157 3 := ⟨⟨z_532, z_103, ⟨by decide +kernel, by decide +kernel, by decide +kernel⟩, Nat.le_of_ble_eq_true rfl⟩, z_531⟩
/-- a method of a text: any method, the receiver a constant -/
def fs_mT (μ : fs_I) (n : Nat) : Prop := fs_mB μ n ∧ Cond.instanceMethod (fs_iy μ) ∈ fs_tb ∧ Cond.selects (fs_iy μ).cls (fs_iy μ) (fs_iy μ) ∈ fs_tb ∧ (fs_iy μ).cls = "java/lang/String"
theorem mt_length : fs_mT m_J0_length_8abf5 0 := ⟨⟨z_507, z_101, ⟨by decide +kernel, by decide +kernel, by decide +kernel⟩, Nat.le_of_ble_eq_true rfl⟩, z_505, z_506, rfl⟩
theorem mt_charAt : fs_mT m_J0_charAt_5068e 1 := ⟨⟨z_517, z_101, ⟨by decide +kernel, by decide +kernel, by decide +kernel⟩, Nat.le_of_ble_eq_true rfl⟩, z_515, z_516, rfl⟩
theorem mt_coder : fs_mT m_J0_coder_7d493 0 := ⟨⟨z_511, z_101, ⟨by decide +kernel, by decide +kernel, by decide +kernel⟩, Nat.le_of_ble_eq_true rfl⟩, z_509, z_510, rfl⟩
theorem mt_isLatin1 : fs_mT m_J0_isLatin1_aae02 0 := ⟨⟨z_521, z_101, ⟨by decide +kernel, by decide +kernel, by decide +kernel⟩, Nat.le_of_ble_eq_true rfl⟩, z_519, z_520, rfl⟩
def fi_gcs (K : fs_P) : fs_P := fun ls st M => K ls (.int 1 :: st) M
def fi_fmt (K : fs_P) : fs_P := fun ls st M => K ls (.null :: st) M ∧ K ls (.ref (10000 + 51) :: st) M
def fi_sval (i : Nat) (K : fs_P) : fs_P := fun ls st M => match st with | .ref k :: t => k = 10000 + (100 + i) ∧ K ls (.ref (10000 + (200 + i)) :: t) M | _ => False
def fi_scod (i : Nat) (K : fs_P) : fs_P := fun ls st M => match st with | .ref k :: t => k = 10000 + (100 + i) ∧ K ls (.int 0 :: t) M | _ => False
def fi_tlen (i n : Nat) (K : fs_P) : fs_P := fun ls st M => match st with | .ref k :: t => k = 10000 + (200 + i) ∧ K ls (.int (nI n) :: t) M | _ => False
def fi_tbl (i : Nat) (bs : List Int32) (K : fs_P) : fs_P := fun ls st M => match st with | .int x :: .ref k :: t => k = 10000 + (200 + i) ∧ vp_in x bs.length ∧ K ls (.int (bs.getD x.toNatClampNeg 0) :: t) M | _ => False
def fi_nret (ty : FieldType) (Q : Option Value → fs_M → Prop) : fs_P := fun _ st M => match st with | [.int x] => narrow ty (.int x) = .int x ∧ Q (some (.int x)) M | _ => False
def fi_t0 (g : fs_G) (μ' : fs_I) (K : fs_P) : fs_P := fun ls st M => match st with | .ref k :: t => t.length ≤ 4 ∧ (∃ q ∈ fs_sr, k = 10000 + (100 + q.2.2.2.2)) ∧ fs_Ct g μ' [.ref k] M (fun r M' => K ls (r.toList ++ t) M') | _ => False
section FOT
variable {g : fs_G} {μ μ' : fs_I} {d : Nat} {u : Nat × Nat} {Q : Option Value → fs_M → Prop} {pc : Nat} {K K1 K2 : fs_P}
theorem fo_gcs (hc : (fs_iy μ).cls = "java/lang/String") (hd : decode (fs_ic μ) pc = .ok (.getstatic 38, 3)) (h : fs_E g μ d u Q (pc + 3) K) : fs_E g μ d u Q pc (fi_gcs K) := by
  intro ls st M hk p e R s m args below meth c H locs lsA C0 hS hW hL
  have ho := C0.2.2.2.2.2.1
  rw [hc] at ho
  exact va_gets C0.1 C0.2.1 C0.2.2.2.2.2.2.2.2.2.1.2.2.2.2.1 hS ho (C0.2.2.2.2.2.2.1 _ z_512) (fun _ x => x) hd (h ls (.int 1 :: st) M hk p e R s m args below meth c H locs lsA C0 hS hW hL)
theorem fo_fmt (hc : (fs_iy μ).cls = "java/lang/String") (hd : decode (fs_ic μ) pc = .ok (.getstatic 1053, 3)) (h : fs_E g μ d u Q (pc + 3) K) : fs_E g μ d u Q pc (fi_fmt K) := by
  intro ls st M hk p e R s m args below meth c H locs lsA C0 hS hW hL
  have ho := C0.2.2.2.2.2.1
  rw [hc] at ho
  rcases C0.2.2.2.2.2.2.2.2.2.1.2.2.2.2.2.2.2.1 with hz | hz
  · exact va_gets C0.1 C0.2.1 hz hS ho (C0.2.2.2.2.2.2.1 _ z_528) (fun _ x => x) hd (h ls (.null :: st) M hk.1 p e R s m args below meth c H locs lsA C0 hS hW hL)
  · have h1 := h ls (.ref (10000 + 51) :: st) M hk.2 p e R s m args below meth c H locs lsA C0 hS hW hL
    simp only [List.map_cons, fs_cv, fs_ad_s] at h1
    exact va_gets C0.1 C0.2.1 hz hS ho (C0.2.2.2.2.2.2.1 _ z_528) (fun _ x => x) hd h1
theorem fo_sval {q : String × Nat × String × List Int32 × Nat} (hq : q ∈ fs_sr) (hc : (fs_iy μ).cls = "java/lang/String") (hd : decode (fs_ic μ) pc = .ok (.getfield 9, 3)) (h : fs_E g μ d u Q (pc + 3) K) : fs_E g μ d u Q pc (fi_sval q.2.2.2.2 K) := by
  intro ls st M hk p e R s m args below meth c H locs lsA C0 hS hW hL
  have ho := C0.2.2.2.2.2.1
  rw [hc] at ho
  unfold fi_sval at hk
  split at hk
  · rename_i k t
    obtain ⟨rfl, hk⟩ := hk
    have h1 := h ls _ M hk p e R s m args below meth c H locs lsA C0 hS hW hL
    simp only [List.map_cons, fs_cv, fs_ad_s] at h1 ⊢
    exact vk_getf C0.1 C0.2.1 (C0.2.2.2.2.2.2.2.2.2.1.2.2.2.1 q hq).2.2.1 hS ho (C0.2.2.2.2.2.2.1 _ z_1736) (fun _ x => x) hd h1
  · exact hk.elim
theorem fo_scod {q : String × Nat × String × List Int32 × Nat} (hq : q ∈ fs_sr) (hc : (fs_iy μ).cls = "java/lang/String") (hd : decode (fs_ic μ) pc = .ok (.getfield 15, 3)) (h : fs_E g μ d u Q (pc + 3) K) : fs_E g μ d u Q pc (fi_scod q.2.2.2.2 K) := by
  intro ls st M hk p e R s m args below meth c H locs lsA C0 hS hW hL
  have ho := C0.2.2.2.2.2.1
  rw [hc] at ho
  unfold fi_scod at hk
  split at hk
  · rename_i k t
    obtain ⟨rfl, hk⟩ := hk
    have h1 := h ls _ M hk p e R s m args below meth c H locs lsA C0 hS hW hL
    simp only [List.map_cons, fs_cv, fs_ad_s] at h1 ⊢
    exact vk_getf C0.1 C0.2.1 (C0.2.2.2.2.2.2.2.2.2.1.2.2.2.1 q hq).2.1 hS ho (C0.2.2.2.2.2.2.1 _ z_1737) (fun _ x => x) hd h1
  · exact hk.elim
theorem fo_tlen {q : String × Nat × String × List Int32 × Nat} (hq : q ∈ fs_sr) (hd : decode (fs_ic μ) pc = .ok (.arraylength, 1)) (h : fs_E g μ d u Q (pc + 1) K) : fs_E g μ d u Q pc (fi_tlen q.2.2.2.2 q.2.2.2.1.length K) := by
  intro ls st M hk p e R s m args below meth c H locs lsA C0 hS hW hL
  unfold fi_tlen at hk
  split at hk
  · rename_i k t
    obtain ⟨rfl, hk⟩ := hk
    have h1 := h ls _ M hk p e R s m args below meth c H locs lsA C0 hS hW hL
    simp only [List.map_cons, fs_cv, fs_ad_s] at h1 ⊢
    exact va_tlen C0.1 C0.2.1 (C0.2.2.2.2.2.2.2.2.2.1.2.2.2.1 q hq).2.2.2 hS rfl hd h1
  · exact hk.elim
theorem fo_tbl {q : String × Nat × String × List Int32 × Nat} (hq : q ∈ fs_sr) (hd : decode (fs_ic μ) pc = .ok (.baload, 1)) (h : fs_E g μ d u Q (pc + 1) K) : fs_E g μ d u Q pc (fi_tbl q.2.2.2.2 q.2.2.2.1 K) := by
  intro ls st M hk p e R s m args below meth c H locs lsA C0 hS hW hL
  unfold fi_tbl at hk
  split at hk
  · rename_i x k t
    obtain ⟨rfl, hin, hk⟩ := hk
    have h1 := h ls _ M hk p e R s m args below meth c H locs lsA C0 hS hW hL
    simp only [List.map_cons, fs_cv, fs_ad_s] at h1 ⊢
    exact va_tb C0.1 C0.2.1 (C0.2.2.2.2.2.2.2.2.2.1.2.2.2.1 q hq).2.2.2 hS hin rfl hd h1
  · exact hk.elim
theorem fo_i2c (hd : decode (fs_ic μ) pc = .ok (.i2c, 1)) (h : fs_E g μ d u Q (pc + 1) K) : fs_E g μ d u Q pc (fi_un (fun x => (x.toUInt32 % 65536).toInt32) K) := by
  intro ls st M hk p e R s m args below meth c H locs lsA C hS hW hL
  unfold fi_un at hk
  split at hk
  · exact lv_i2c C.1 C.2.1 hd rfl (h ls _ M hk p e R s m args below meth c H locs lsA C hS hW hL)
  · exact hk.elim
theorem fo_nret {ty : FieldType} (hu : u.1 ≤ fs_mc μ ∧ u.2 ≤ fs_ms μ) (hr : fs_ir μ = some ty) (hd : decode (fs_ic μ) pc = .ok (.ireturn, 1)) : fs_E g μ d u Q pc (fi_nret ty Q) := by
  intro ls st M hk p e R s m args below meth c H locs lsA C0 hS hW hL
  unfold fi_nret at hk
  split at hk
  · rename_i x
    refine W.widen hu.1 hu.2 ?_
    exact W.zret C0.1 C0.2.1 (C0.2.2.1.trans hr) hk.1 (fun t ht _ => ⟨⟨some (.int x), M, rfl, hk.2, by rw [ht]; exact hW⟩, hS.F ht⟩) hS.2.2 hd C0.2.2.2.1
  · exact hk.elim
/-- a call on a text -/
theorem fs_goT {d' n index : Nat} {q : String × Nat × String × List Int32 × Nat} {As rest ls : List Value} {M : fs_M} {Q' : Option Value → fs_M → Prop} (hq : q ∈ fs_sr) (hm : fs_mT μ' n) (hl : Cond.methodLink (fs_iy μ).cls index (fs_iy μ') ∈ fs_tb) (hdd : d' + 1 ≤ d) (hn : As.length = n) (hu : u.1 + fs_mc μ' ≤ fs_mc μ ∧ u.2 + fs_ms μ' ≤ fs_ms μ) (hd : decode (fs_ic μ) pc = .ok (.invokevirtual index, 3))
    (hM : fs_T g μ' d' (.ref (10000 + (100 + q.2.2.2.2)) :: As) M Q') (hr : rest.length ≤ 4) (h : ∀ r M', Q' r M' → fs_R g μ d (u.1 + fs_mc μ', u.2 + fs_ms μ') (pc + 3) ls (r.toList ++ rest) M' Q) : fs_R g μ d u pc ls (As.reverse ++ .ref (10000 + (100 + q.2.2.2.2)) :: rest) M Q := by
  intro p e R s m args below meth c H locs lsA C0 hS hW hL
  obtain ⟨⟨hc, hi, hD, hiL⟩, hin, hse, hcl⟩ := hm
  have hts := C0.2.2.2.2.2.2.1
  have hRe := C0.2.2.2.2.2.2.2.2.1
  have hK := C0.2.2.2.2.2.2.2.2.2.1
  refine fs_back (va_runV (C := (fs_iy μ').cls) (b := fs_ad g (10000 + (100 + q.2.2.2.2))) (As := As.map (fs_cv g)) (rest := rest.map (fs_cv g)) ⟨C0.1, C0.2.1, C0.2.2.2.2.1, C0.2.2.2.2.2.1, hts⟩ hM (cwV n hts (fun w hw => ?_) rfl rfl rfl ⟨rfl, hD⟩ ⟨by rw [hRe]; exact hdd, by rw [hRe]; show 8 + (fs_iL μ' + 11) + 64 * d' ≤ 64 * d; omega⟩) ⟨fs_blind (M := M), ?_, fs_pre (av := .ref (10000 + (100 + q.2.2.2.2)) :: As) hS hK C0.2.2.2.2.2.2.2.2.2.2.1 hW⟩ rfl (by simpa using hn) (hL.1.1) (by simp [fs_cv]) (by simpa using fs_cats hr) hd (by rw [hRe]; exact hu)) hS (fun r M' H1 locs1 hq hW1 hS1 => ?_)
  · simp only [wsV, List.mem_append, List.mem_cons, List.not_mem_nil, or_false] at hw
    rcases hw with (rfl | rfl | rfl | rfl) | hw
    · exact fs_good hl
    · exact fs_good hin
    · exact fs_good hse
    · exact fs_good hi
    · exact fs_goodC hc w (List.mem_cons.mpr hw)
  · rw [fs_ad_s, hcl]
    obtain ⟨cell, h1, h2, h3, h4⟩ := (hK.2.2.2.1 q hq).1
    refine ⟨cell, ?_, h2, h3⟩
    rw [hS.2.1 _ (Array.getElem?_eq_some_iff.mp h1).1 h4]
    exact h1
  · rw [fs_stk]
    exact h r M' hq p e R s m args below meth c H1 locs1 lsA C0 hS1 hW1 hL
theorem fo_t0 {index : Nat} (hm : fs_mT μ' 0) (hl : Cond.methodLink (fs_iy μ).cls index (fs_iy μ') ∈ fs_tb) (hdp : fs_dp μ' + 1 ≤ fs_dp μ) (hu0 : (u.1 + fs_mc μ', u.2 + fs_ms μ') = u) (hu : u.1 + fs_mc μ' ≤ fs_mc μ ∧ u.2 + fs_ms μ' ≤ fs_ms μ) (hd : decode (fs_ic μ) pc = .ok (.invokevirtual index, 3)) (h : fs_E g μ d u Q (pc + 3) K) : fs_E g μ d u Q pc (fi_t0 g μ' K) := by
  intro ls st M hk
  unfold fi_t0 at hk
  split at hk
  · rename_i k t
    obtain ⟨h1, ⟨q, hq, rfl⟩, h3⟩ := hk
    refine fs_dep (fun hdd => ?_)
    exact fs_goT (As := []) (rest := t) hq hm hl (d' := d - 1) (by omega) rfl hu hd (h3 (d - 1) (by omega)) h1 (fun r M' hq => by rw [hu0]; exact h _ _ _ hq)
  · exact hk.elim
end FOT
section JC
variable {g : fs_G} {M : fs_M} {q : String × Nat × String × List Int32 × Nat}
theorem c_coderJ (hq : q ∈ fs_sr) : fs_Ct g m_J0_coder_7d493 [.ref (10000 + (100 + q.2.2.2.2))] M (fun r M' => r = some (.int 0) ∧ M = M') := by
  refine fs_enterC (by decide) (by simp [fs_ok]) (Nat.le_of_ble_eq_true rfl) (fun d => ?_)
  refine (show fs_E g m_J0_coder_7d493 d (0, 0) _ 0 _ from fo_gcs rfl dJ0_coder_7d493_0 (fo_if_eq (tgt := 13) dJ0_coder_7d493_3 (by decide) (fo_no (pc := 13)) (fo_aload_n dJ0_coder_7d493_6 rfl (fo_scod hq rfl dJ0_coder_7d493_7 (fo_goto (tgt := 14) dJ0_coder_7d493_10 (by decide) (fo_nret (ty := .byte) ⟨Nat.le_of_ble_eq_true rfl, Nat.le_of_ble_eq_true rfl⟩ rfl dJ0_coder_7d493_14)))))) _ _ M ?_
  simp [fi_gcs, fi_if, fi_aload, fi_scod, fi_nret, fi_no]
  exact rfl
theorem c_latinJ (hq : q ∈ fs_sr) : fs_Ct g m_J0_isLatin1_aae02 [.ref (10000 + (100 + q.2.2.2.2))] M (fun r M' => r = some (.int 1) ∧ M = M') := by
  refine fs_enterC (by decide) (by simp [fs_ok]) (Nat.le_of_ble_eq_true rfl) (fun d => ?_)
  refine (show fs_E g m_J0_isLatin1_aae02 d (0, 0) _ 0 _ from fo_gcs rfl dJ0_isLatin1_aae02_0 (fo_if_eq (tgt := 17) dJ0_isLatin1_aae02_3 (by decide) (fo_no (pc := 17)) (fo_aload_n dJ0_isLatin1_aae02_6 rfl (fo_scod hq rfl dJ0_isLatin1_aae02_7 (fo_if_ne (tgt := 17) dJ0_isLatin1_aae02_10 (by decide) (fo_no (pc := 17)) (fo_iconst (v := 1) dJ0_isLatin1_aae02_13 (by decide) (fo_goto (tgt := 18) dJ0_isLatin1_aae02_14 (by decide) (fo_nret (ty := .boolean) ⟨Nat.le_of_ble_eq_true rfl, Nat.le_of_ble_eq_true rfl⟩ rfl dJ0_isLatin1_aae02_18)))))))) _ _ M ?_
  simp [fi_gcs, fi_if, fi_aload, fi_scod, fi_nret, fi_no, fi_const]
  exact rfl
/-- the last argument may be null -/
theorem fs_enter3 {μ : fs_I} {d : Nat} {Q : Option Value → fs_M → Prop} {x y : Int32} (hp : plainName (fs_iy μ).cls = true) (hL3 : fs_iL μ = 3) (hdp : fs_dp μ ≤ d) (h : fs_R g μ d (0, 0) 0 [.int x, .int y, .null] [] M Q) : fs_T g μ d [.int x, .int y, .null] M Q := by
  refine Met.ofW (cc := fs_ic μ) (maxL := fs_iL μ) (ret := fs_ir μ) hp rfl ?_
  intro p e s m args below meth c s₁ B hml hv
  obtain ⟨rfl, hB, hK, hW⟩ := hv
  have hts := atoms_spec (ws := Cond.code (fs_iy μ) (fs_ic μ) (fs_iL μ) (fs_ir μ) :: fs_tb) B.pre
  have hl := lv_entry ([Value.int x, .int y, .null].map (fs_cv g)) (n := fs_iL μ) (by rw [hL3]; exact Nat.le_refl _)
  rw [lg_entry_eq]
  generalize (lg_sl ([Value.int x, .int y, .null].map (fs_cv g)) ++ List.replicate (fs_iL μ - (lg_sl ([Value.int x, .int y, .null].map (fs_cv g))).length) Slot.unset).toArray = lsA at hl ⊢
  exact h p e (fs_rm μ d) s m _ below meth c s.heap [] lsA ⟨B.exec, B.bytes, B.returns, B.notSynchronized, hml, findClass_of_methodNamed B.named, fun w hw => hts w (List.mem_cons_of_mem _ hw), (name_of_methodNamed B.named B.method).1, rfl, hK, hB, hdp⟩ va_S.rf hW ⟨lv_sub hl [0, 1] rfl, by rw [hL3]; rfl⟩
theorem r_pre {d : Nat} {j n : Nat} (hj : j < n) (hn : n < 2 ^ 31) {z : Value} : fs_R g m_J3_checkIndex_8e157 d (0, 0) 0 [.int (nI j), .int (nI n), z] [] M (fun r M' => r = some (.int (nI j)) ∧ M = M') := by
  refine (show fs_E g m_J3_checkIndex_8e157 d (0, 0) _ 0 _ from fo_iload_n dJ3_checkIndex_8e157_0 rfl (fo_if_lt (tgt := 9) dJ3_checkIndex_8e157_1 (by decide) (fo_no (pc := 9)) (fo_iload_n dJ3_checkIndex_8e157_4 rfl (fo_iload_n dJ3_checkIndex_8e157_5 rfl (fo_icmp_lt (tgt := 16) dJ3_checkIndex_8e157_6 (by decide) (fo_iload_n dJ3_checkIndex_8e157_16 rfl (fo_iret ⟨Nat.le_of_ble_eq_true rfl, Nat.le_of_ble_eq_true rfl⟩ rfl dJ3_checkIndex_8e157_17)) (fo_no (pc := 9))))))) _ _ M ?_
  simp only [fi_iload, fi_if, fi_cmp, fi_iret, fi_no, List.getElem?_cons_zero, List.getElem?_cons_succ]
  exact ⟨fun z => absurd z (nI_pos (by omega)), fun _ => ⟨fun _ => ⟨rfl, trivial⟩, fun z => absurd (nI_lt hj hn) z⟩⟩
theorem c_preJ {j n : Nat} (hj : j < n) (hn : n < 2 ^ 31) : fs_Ct g m_J3_checkIndex_8e157 [.int (nI j), .int (nI n), .null] M (fun r M' => r = some (.int (nI j)) ∧ M = M') := fun d hd => fs_enter3 (by decide) rfl hd (r_pre hj hn)
theorem c_preJ2 {j n : Nat} (hj : j < n) (hn : n < 2 ^ 31) : fs_Ct g m_J3_checkIndex_8e157 [.int (nI j), .int (nI n), .ref (10000 + 51)] M (fun r M' => r = some (.int (nI j)) ∧ M = M') := fs_enterC (by decide) (by simp [fs_ok]) (Nat.le_of_ble_eq_true rfl) (fun d => r_pre hj hn)
theorem c_chkJ {j n : Nat} (hj : j < n) (hn : n < 2 ^ 31) : fs_Ct g m_J0_checkIndex_df160 [.int (nI j), .int (nI n)] M (fun r M' => r = none ∧ M = M') := by
  refine fs_enterC (by decide) (by simp [fs_ok]) (Nat.le_of_ble_eq_true rfl) (fun d => ?_)
  refine (show fs_E g m_J0_checkIndex_df160 d (0, 0) _ 0 _ from fo_iload_n dJ0_checkIndex_df160_0 rfl (fo_iload_n dJ0_checkIndex_df160_1 rfl (fo_fmt rfl dJ0_checkIndex_df160_2 (fo_s3 ms_J3_checkIndex z_530 (Nat.le_of_ble_eq_true rfl) ⟨Nat.le_of_ble_eq_true rfl, Nat.le_of_ble_eq_true rfl⟩ rfl dJ0_checkIndex_df160_5 (fo_pop dJ0_checkIndex_df160_8 (fo_vret ⟨Nat.le_of_ble_eq_true rfl, Nat.le_of_ble_eq_true rfl⟩ rfl dJ0_checkIndex_df160_9)))))) _ _ M ?_
  refine ⟨⟨by decide, (c_preJ hj hn).mono ?_⟩, ⟨by decide, (c_preJ2 hj hn).mono ?_⟩⟩
  · rintro r M' ⟨rfl, rfl⟩; exact ⟨rfl, rfl, rfl⟩
  · rintro r M' ⟨rfl, rfl⟩; exact ⟨rfl, rfl, rfl⟩
theorem fs_sr_ok : ∀ q ∈ fs_sr, q.2.2.2.1.length < 100 ∧ ∀ j, j < q.2.2.2.1.length → narrow .char (.int (((q.2.2.2.1.getD j 0) &&& 255).toUInt32 % 65536).toInt32) = .int (((q.2.2.2.1.getD j 0) &&& 255).toUInt32 % 65536).toInt32 ∧ (((q.2.2.2.1.getD j 0) &&& 255).toUInt32 % 65536).toInt32 = q.2.2.2.1.getD j 0 := by decide +kernel
theorem c_chL {j : Nat} (hq : q ∈ fs_sr) (hj : j < q.2.2.2.1.length) : fs_Ct g m_J1_charAt_3b067 [.ref (10000 + (200 + q.2.2.2.2)), .int (nI j)] M (fun r M' => r = some (.int (q.2.2.2.1.getD j 0)) ∧ M = M') := by
  obtain ⟨h100, hv⟩ := fs_sr_ok q hq
  obtain ⟨v1, v2⟩ := hv j hj
  refine fs_enterC (by decide) (by simp [fs_ok]) (Nat.le_of_ble_eq_true rfl) (fun d => ?_)
  refine (show fs_E g m_J1_charAt_3b067 d (0, 0) _ 0 _ from fo_iload_n dJ1_charAt_3b067_0 rfl (fo_aload_n dJ1_charAt_3b067_1 rfl (fo_tlen hq dJ1_charAt_3b067_2 (fo_s2 ms_J0_checkIndex z_525 (Nat.le_of_ble_eq_true rfl) ⟨Nat.le_of_ble_eq_true rfl, Nat.le_of_ble_eq_true rfl⟩ rfl dJ1_charAt_3b067_3 (fo_aload_n dJ1_charAt_3b067_6 rfl (fo_iload_n dJ1_charAt_3b067_7 rfl (fo_tbl hq dJ1_charAt_3b067_8 (fo_sipush (v := 255) dJ1_charAt_3b067_9 (by decide) (fo_iand dJ1_charAt_3b067_12 (fo_i2c dJ1_charAt_3b067_13 (fo_nret (ty := .char) ⟨Nat.le_of_ble_eq_true rfl, Nat.le_of_ble_eq_true rfl⟩ rfl dJ1_charAt_3b067_14))))))))))) _ _ M ?_
  refine ⟨rfl, by decide, (c_chkJ hj (by omega)).mono ?_⟩
  rintro r M' ⟨rfl, rfl⟩
  refine ⟨rfl, vp_in_nI hj (by omega), ?_⟩
  rw [nI_clamp (by omega)]
  exact ⟨v1, congrArg _ (congrArg _ v2), rfl⟩
theorem c_lenJ (hq : q ∈ fs_sr) : fs_Ct g m_J0_length_8abf5 [.ref (10000 + (100 + q.2.2.2.2))] M (fun r M' => r = some (.int (nI q.2.2.2.1.length)) ∧ M = M') := by
  refine fs_enterC (by decide) (by simp [fs_ok]) (Nat.le_of_ble_eq_true rfl) (fun d => ?_)
  have e : ∀ x : Int32, x >>> ((0 : Int32) &&& 31) = x := fun x => by
    rw [show ((0 : Int32) &&& 31) = 0 from by decide]
    apply Int32.toBitVec_inj.mp
    simp
  refine (show fs_E g m_J0_length_8abf5 d (0, 0) _ 0 _ from fo_aload_n dJ0_length_8abf5_0 rfl (fo_sval hq rfl dJ0_length_8abf5_1 (fo_tlen hq dJ0_length_8abf5_4 (fo_aload_n dJ0_length_8abf5_5 rfl (fo_t0 mt_coder z_508 (Nat.le_of_ble_eq_true rfl) rfl ⟨Nat.le_of_ble_eq_true rfl, Nat.le_of_ble_eq_true rfl⟩ dJ0_length_8abf5_6 (fo_ishr dJ0_length_8abf5_9 (fo_iret ⟨Nat.le_of_ble_eq_true rfl, Nat.le_of_ble_eq_true rfl⟩ rfl dJ0_length_8abf5_10))))))) _ _ M ?_
  refine ⟨rfl, rfl, Nat.le_of_ble_eq_true rfl, ⟨q, hq, rfl⟩, (c_coderJ hq).mono ?_⟩
  rintro r M' ⟨rfl, rfl⟩
  exact ⟨congrArg _ (congrArg _ (e _)), rfl⟩
theorem c_chJ {j : Nat} (hq : q ∈ fs_sr) (hj : j < q.2.2.2.1.length) : fs_Ct g m_J0_charAt_5068e [.ref (10000 + (100 + q.2.2.2.2)), .int (nI j)] M (fun r M' => r = some (.int (q.2.2.2.1.getD j 0)) ∧ M = M') := by
  obtain ⟨h100, hv⟩ := fs_sr_ok q hq
  obtain ⟨v1, v2⟩ := hv j hj
  rw [v2] at v1
  refine fs_enterC (by decide) (by simp [fs_ok]) (Nat.le_of_ble_eq_true rfl) (fun d => ?_)
  refine (show fs_E g m_J0_charAt_5068e d (0, 0) _ 0 _ from fo_aload_n dJ0_charAt_5068e_0 rfl (fo_t0 mt_isLatin1 z_518 (Nat.le_of_ble_eq_true rfl) rfl ⟨Nat.le_of_ble_eq_true rfl, Nat.le_of_ble_eq_true rfl⟩ dJ0_charAt_5068e_1 (fo_if_eq (tgt := 16) dJ0_charAt_5068e_4 (by decide) (fo_no (pc := 16)) (fo_aload_n dJ0_charAt_5068e_7 rfl (fo_sval hq rfl dJ0_charAt_5068e_8 (fo_iload_n dJ0_charAt_5068e_11 rfl (fo_s2 ms_J1_charAt z_522 (Nat.le_of_ble_eq_true rfl) ⟨Nat.le_of_ble_eq_true rfl, Nat.le_of_ble_eq_true rfl⟩ rfl dJ0_charAt_5068e_12 (fo_nret (ty := .char) ⟨Nat.le_of_ble_eq_true rfl, Nat.le_of_ble_eq_true rfl⟩ rfl dJ0_charAt_5068e_15)))))))) _ _ M ?_
  refine ⟨by decide, ⟨q, hq, rfl⟩, (c_latinJ hq).mono ?_⟩
  rintro r M' ⟨rfl, rfl⟩
  refine ⟨fun z => absurd z (by decide), fun _ => ⟨rfl, by decide, (c_chL hq hj).mono ?_⟩⟩
  rintro r M' ⟨rfl, rfl⟩
  exact ⟨v1, rfl, rfl⟩
end JC
section FOT2
variable {g : fs_G} {μ : fs_I} {d : Nat} {u : Nat × Nat} {Q : Option Value → fs_M → Prop} {pc : Nat} {K : fs_P}
theorem fo_slen {index : Nat} (hl : Cond.methodLink (fs_iy μ).cls index ⟨"java/lang/String", "length", "()I"⟩ ∈ fs_tb) (hdp : 5 ≤ fs_dp μ) (hu : u.1 ≤ fs_mc μ ∧ u.2 ≤ fs_ms μ) (hd : decode (fs_ic μ) pc = .ok (.invokevirtual index, 3)) (h : fs_E g μ d u Q (pc + 3) K) : fs_E g μ d u Q pc (fi_slen K) := by
  intro ls st M hk
  unfold fi_slen at hk
  split at hk
  · rename_i k t
    obtain ⟨h1, q, hq, rfl, hk⟩ := hk
    refine fs_dep (fun hdd => ?_)
    refine fs_goT (μ' := m_J0_length_8abf5) (As := []) (rest := t) hq mt_length hl (d' := d - 1) (by omega) rfl hu hd (c_lenJ hq (d - 1) (show 1 ≤ d - 1 by omega)) h1 ?_
    rintro r M' ⟨rfl, rfl⟩
    exact h _ _ _ hk
  · exact hk.elim
theorem fo_sch {index : Nat} (hl : Cond.methodLink (fs_iy μ).cls index ⟨"java/lang/String", "charAt", "(I)C"⟩ ∈ fs_tb) (hdp : 5 ≤ fs_dp μ) (hu : u.1 ≤ fs_mc μ ∧ u.2 ≤ fs_ms μ) (hd : decode (fs_ic μ) pc = .ok (.invokevirtual index, 3)) (h : fs_E g μ d u Q (pc + 3) K) : fs_E g μ d u Q pc (fi_sch K) := by
  intro ls st M hk
  unfold fi_sch at hk
  split at hk
  · rename_i x k t
    obtain ⟨h1, q, hq, rfl, j, hj, rfl, hk⟩ := hk
    refine fs_dep (fun hdd => ?_)
    refine fs_goT (μ' := m_J0_charAt_5068e) (As := [.int (nI j)]) (rest := t) hq mt_charAt hl (d' := d - 1) (by omega) rfl hu hd (c_chJ hq hj (d - 1) (show 3 ≤ d - 1 by omega)) h1 ?_
    rintro r M' ⟨rfl, rfl⟩
    exact h _ _ _ hk
  · exact hk.elim
end FOT2
