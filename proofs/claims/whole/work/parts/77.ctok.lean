/-! ===== the tokens of the class ===== -/
/-- the shape of the loader and its tokens -/
def shL (S : List fs_Sh) : Prop := S[26]? = some (.inr (2, [some (some 27), none, some (some 39), some (some 45), none, none, none])) ∧ S[45]? = some (.inr (6, [none, none, none, some (some 1), none, none])) ∧ S[1]? = some (.inl (.byte, 900)) ∧ shP S 27 ∧ shD S 39 27
def TX (σ : Nat → Nat → Int32) (b : Nat → Nat) (L : Nat) : Prop := σ 45 4 = nI L ∧ L ≤ 900 ∧ ∀ i, i < L → b i < 256 ∧ σ 1 i = sB (b i)
def TI (σ : Nat → Nat → Int32) (b : Nat → Nat) (L k : Nat) : Prop := σ 45 0 = nI (tK b L k) ∧ σ 45 1 = nI (tS b L k) ∧ σ 45 5 = nI (tE b L k) ∧ (tK b L k = 2 → σ 45 2 = nI (if tV b L k ≤ 100000 then tV b L k else 100000))
/-- only the token has changed -/
def tkC (σ σ' : Nat → Nat → Int32) : Prop := ∀ a c, ¬ (a = 45 ∧ c ≠ 3 ∧ c ≠ 4) → σ' a c = σ a c
theorem tkC.rf {σ : Nat → Nat → Int32} : tkC σ σ := fun _ _ _ => rfl
theorem tkC.tr {σ σ1 σ2 : Nat → Nat → Int32} (h : tkC σ σ1) (h2 : tkC σ1 σ2) : tkC σ σ2 := fun a c z => (h2 a c z).trans (h a c z)
theorem tkC.u {σ : Nat → Nat → Int32} {c : Nat} {x : Int32} (h1 : c ≠ 3) (h2 : c ≠ 4) : tkC σ (fs_u σ 45 c x) := fun a e z => by
  simp only [fs_u]
  rw [if_neg (fun w => z ⟨w.1, by omega, by omega⟩)]
theorem tkC.ne {σ σ' : Nat → Nat → Int32} (h : tkC σ σ') {a : Nat} (ha : a ≠ 45) : σ' a = σ a := funext fun c => h a c (fun z => ha z.1)
theorem TX.keep {σ σ' : Nat → Nat → Int32} {b : Nat → Nat} {L : Nat} (h : TX σ b L) (hs : tkC σ σ') : TX σ' b L := by
  obtain ⟨h1, h2, h3⟩ := h
  refine ⟨by rw [hs 45 4 (by omega)]; exact h1, h2, by rw [hs.ne (by decide)]; exact h3⟩
theorem TI.keep {σ σ' : Nat → Nat → Int32} {b : Nat → Nat} {L k : Nat} (h : TI σ b L k) (hs : σ' 45 = σ 45) : TI σ' b L k := by
  unfold TI at h ⊢; rw [hs]; exact h
section PT1
variable {g : fs_G} {d : Nat} {S : List fs_Sh} {fr : Bool} {σ : Nat → Nat → Int32} {τ : Nat → Nat → Int64} {b : Nat → Nat} {L : Nat}
theorem c_isLetter {x : Nat} (hx : x < 256) {M : fs_M} : fs_Ct g m_X6_isLetter [.int (sB x)] M (fun r M' => r = some (.int (bI (isLt x))) ∧ M = M') := by
  refine fs_enterC (by decide) (by simp [fs_ok]) (Nat.le_of_ble_eq_true rfl) (fun d => S_X6_isLetter_0 ?_)
  show T_X6_isLetter_0 g d _ [.int (sB x)] [] _
  simp only [T_X6_isLetter_0, fi_const, fi_iload, fi_aload, fi_istore, fi_astore, fi_iinc, fi_bin, fi_div, fi_un, fi_dup, fi_dup2, fi_pop, fi_if, fi_cmp, fi_getf, fi_putf, fi_putr, fi_ald, fi_ast, fi_alen, fi_iret, fi_zret, fi_vret, fi_cut, fi_no, fi_s0, fi_s1, fi_s2, fi_s3, fi_s4, fi_v0, fi_v1, fi_v2, fi_v3, fi_v4, fi_v5, fi_n0, fi_n1, fi_n2, fi_mm, fi_stat, fi_alds, fi_tsw, List.getElem?_cons_zero, List.getElem?_cons_succ, List.set_cons_zero, List.set_cons_succ, List.length_cons, List.length_nil, Option.toList_some, Option.toList_none, List.cons_append, List.nil_append, Value.category, true_and, k_0, k_1, k_2, k_3, k_4, false_implies, true_implies, reduceCtorEq]
  have h := sB_let x hx
  refine ⟨fun q => ⟨Or.inl trivial, ?_⟩, fun q => ⟨fun q2 => ⟨Or.inl trivial, ?_⟩, fun q2 => ⟨Or.inr trivial, ?_⟩⟩⟩
  · have : isLt x = false := by cases w : isLt x; rfl; exact absurd q (h.mpr w).1
    rw [this]; exact ⟨rfl, trivial⟩
  · have : isLt x = false := by cases w : isLt x; rfl; exact absurd q2 (h.mpr w).2
    rw [this]; exact ⟨rfl, trivial⟩
  · rw [h.mp ⟨q, q2⟩]; exact ⟨rfl, trivial⟩
theorem c_isDigitC {x : Nat} (hx : x < 256) {M : fs_M} : fs_Ct g m_X6_isDigit [.int (sB x)] M (fun r M' => r = some (.int (bI (isDg x))) ∧ M = M') := by
  refine fs_enterC (by decide) (by simp [fs_ok]) (Nat.le_of_ble_eq_true rfl) (fun d => S_X6_isDigit_0 ?_)
  show T_X6_isDigit_0 g d _ [.int (sB x)] [] _
  simp only [T_X6_isDigit_0, fi_const, fi_iload, fi_aload, fi_istore, fi_astore, fi_iinc, fi_bin, fi_div, fi_un, fi_dup, fi_dup2, fi_pop, fi_if, fi_cmp, fi_getf, fi_putf, fi_putr, fi_ald, fi_ast, fi_alen, fi_iret, fi_zret, fi_vret, fi_cut, fi_no, fi_s0, fi_s1, fi_s2, fi_s3, fi_s4, fi_v0, fi_v1, fi_v2, fi_v3, fi_v4, fi_v5, fi_n0, fi_n1, fi_n2, fi_mm, fi_stat, fi_alds, fi_tsw, List.getElem?_cons_zero, List.getElem?_cons_succ, List.set_cons_zero, List.set_cons_succ, List.length_cons, List.length_nil, Option.toList_some, Option.toList_none, List.cons_append, List.nil_append, Value.category, true_and, k_0, k_1, k_2, k_3, k_4, false_implies, true_implies, reduceCtorEq]
  have h := sB_dig x hx
  refine ⟨fun q => ⟨Or.inl trivial, ?_⟩, fun q => ⟨fun q2 => ⟨Or.inl trivial, ?_⟩, fun q2 => ⟨Or.inr trivial, ?_⟩⟩⟩
  · have : isDg x = false := by cases w : isDg x; rfl; exact absurd q (h.mpr w).1
    rw [this]; exact ⟨rfl, trivial⟩
  · have : isDg x = false := by cases w : isDg x; rfl; exact absurd q2 (h.mpr w).2
    rw [this]; exact ⟨rfl, trivial⟩
  · rw [h.mp ⟨q, q2⟩]; exact ⟨rfl, trivial⟩
theorem l_readWord (hS : shL S) : ∀ n j σ, j + n = L → TX σ b L → σ 45 5 = nI j → fs_R g m_X6_readWord d (0, 0) 5 [.ref 45] [] ((S, fr), σ, τ) (fun r M' => r = none ∧ ((S, fr), fs_u σ 45 5 (nI (scn isLt b n j)), τ) = M')
  | 0, j, σ, hj, hT, h5 => by
    obtain ⟨h4, hL, hb⟩ := id hT
    refine S_X6_readWord_5 ?_
    simp only [T_X6_readWord_5, fi_const, fi_iload, fi_aload, fi_istore, fi_astore, fi_iinc, fi_bin, fi_div, fi_un, fi_dup, fi_dup2, fi_pop, fi_if, fi_cmp, fi_getf, fi_putf, fi_putr, fi_ald, fi_ast, fi_alen, fi_iret, fi_zret, fi_vret, fi_cut, fi_no, fi_s0, fi_s1, fi_s2, fi_s3, fi_s4, fi_v0, fi_v1, fi_v2, fi_v3, fi_v4, fi_v5, fi_n0, fi_n1, fi_n2, fi_mm, fi_stat, fi_alds, fi_tsw, List.getElem?_cons_zero, List.getElem?_cons_succ, List.set_cons_zero, List.set_cons_succ, List.length_cons, List.length_nil, Option.toList_some, Option.toList_none, List.cons_append, List.nil_append, Value.category, true_and, k_0, k_1, k_2, k_3, k_4, false_implies, true_implies, reduceCtorEq, hS.2.1, h5, h4]
    refine pk_le L j (fun _ => ?_) (fun z => by omega)
    have e : fs_u σ 45 5 (nI (scn isLt b 0 j)) = σ := by
      funext a c; simp only [fs_u, scn]; split
      · rename_i h; rw [h.1, h.2, h5]
      · rfl
    rw [e]
  | n + 1, j, σ, hj, hT, h5 => by
    obtain ⟨h4, hL, hb⟩ := id hT
    obtain ⟨hb1, hb2⟩ := hb j (by omega)
    have i9 : vp_in (nI j) 900 := vp_in_nI (by omega) (by decide)
    refine S_X6_readWord_5 ?_
    simp only [T_X6_readWord_5, fi_const, fi_iload, fi_aload, fi_istore, fi_astore, fi_iinc, fi_bin, fi_div, fi_un, fi_dup, fi_dup2, fi_pop, fi_if, fi_cmp, fi_getf, fi_putf, fi_putr, fi_ald, fi_ast, fi_alen, fi_iret, fi_zret, fi_vret, fi_cut, fi_no, fi_s0, fi_s1, fi_s2, fi_s3, fi_s4, fi_v0, fi_v1, fi_v2, fi_v3, fi_v4, fi_v5, fi_n0, fi_n1, fi_n2, fi_mm, fi_stat, fi_alds, fi_tsw, List.getElem?_cons_zero, List.getElem?_cons_succ, List.set_cons_zero, List.set_cons_succ, List.length_cons, List.length_nil, Option.toList_some, Option.toList_none, List.cons_append, List.nil_append, Value.category, true_and, k_0, k_1, k_2, k_3, k_4, false_implies, true_implies, reduceCtorEq, hS.2.1, h5, h4, hS.2.2.1, i9, nI_clamp (show j < 2 ^ 31 by omega), hb2]
    refine pk_le L j (fun z => by omega) (fun _ => ⟨by decide, (c_isLetter hb1).mono ?_⟩)
    rintro r M' ⟨rfl, rfl⟩
    simp only [fi_const, fi_iload, fi_aload, fi_istore, fi_astore, fi_iinc, fi_bin, fi_div, fi_un, fi_dup, fi_dup2, fi_pop, fi_if, fi_cmp, fi_getf, fi_putf, fi_putr, fi_ald, fi_ast, fi_alen, fi_iret, fi_zret, fi_vret, fi_cut, fi_no, fi_s0, fi_s1, fi_s2, fi_s3, fi_s4, fi_v0, fi_v1, fi_v2, fi_v3, fi_v4, fi_v5, fi_n0, fi_n1, fi_n2, fi_mm, fi_stat, fi_alds, fi_tsw, List.getElem?_cons_zero, List.getElem?_cons_succ, List.set_cons_zero, List.set_cons_succ, List.length_cons, List.length_nil, Option.toList_some, Option.toList_none, List.cons_append, List.nil_append, Value.category, true_and, k_0, k_1, k_2, k_3, k_4, false_implies, true_implies, reduceCtorEq, bI_eq0, hS.2.1, h5, nI_1]
    refine ⟨fun q => ?_, fun q => ?_⟩
    · have e : fs_u σ 45 5 (nI (scn isLt b (n + 1) j)) = σ := by
        funext a c; simp only [fs_u, scn]; split
        · rename_i h; rw [h.1, h.2, h5, if_neg (by rw [q]; decide)]
        · rfl
      rw [e]
    · have q' : isLt (b j) = true := by cases w : isLt (b j); exact absurd w q; rfl
      refine fs_R_mono (l_readWord hS n (j + 1) (fs_u σ 45 5 (nI (j + 1))) (by omega) (hT.keep (tkC.u (by decide) (by decide))) (u_eq ..)) ?_
      rintro r M' ⟨rfl, rfl⟩
      refine ⟨rfl, ?_⟩
      have e : fs_u (fs_u σ 45 5 (nI (j + 1))) 45 5 (nI (scn isLt b n (j + 1))) = fs_u σ 45 5 (nI (scn isLt b (n + 1) j)) := by
        funext a c; simp only [fs_u, scn, if_pos q']; split <;> rfl
      rw [e]
theorem l_readInt (hS : shL S) : ∀ n j v σ, j + n = L → v ≤ 1000009 → TX σ b L → σ 45 5 = nI j → σ 45 2 = nI (if v ≤ 100000 then v else 100000) → fs_R g m_X6_readInteger d (0, 0) 10 [.ref 45] [] ((S, fr), σ, τ) (fun r M' => r = none ∧ ∃ σ', M' = ((S, fr), σ', τ) ∧ (∀ a c, ¬ (a = 45 ∧ (c = 2 ∨ c = 5)) → σ' a c = σ a c) ∧ σ' 45 5 = nI (scn isDg b n j) ∧ σ' 45 2 = nI (if ivG b n j v ≤ 100000 then ivG b n j v else 100000))
  | 0, j, v, σ, hj, hv, hT, h5, h2 => by
    obtain ⟨h4, hL, hb⟩ := id hT
    refine S_X6_readInteger_10 ?_
    simp only [T_X6_readInteger_10, fi_const, fi_iload, fi_aload, fi_istore, fi_astore, fi_iinc, fi_bin, fi_div, fi_un, fi_dup, fi_dup2, fi_pop, fi_if, fi_cmp, fi_getf, fi_putf, fi_putr, fi_ald, fi_ast, fi_alen, fi_iret, fi_zret, fi_vret, fi_cut, fi_no, fi_s0, fi_s1, fi_s2, fi_s3, fi_s4, fi_v0, fi_v1, fi_v2, fi_v3, fi_v4, fi_v5, fi_n0, fi_n1, fi_n2, fi_mm, fi_stat, fi_alds, fi_tsw, List.getElem?_cons_zero, List.getElem?_cons_succ, List.set_cons_zero, List.set_cons_succ, List.length_cons, List.length_nil, Option.toList_some, Option.toList_none, List.cons_append, List.nil_append, Value.category, true_and, k_0, k_1, k_2, k_3, k_4, false_implies, true_implies, reduceCtorEq, hS.2.1, h5, h4]
    refine pk_le L j (fun _ => ?_) (fun z => by omega)
    exact ⟨σ, rfl, fun _ _ _ => rfl, h5, h2⟩
  | n + 1, j, v, σ, hj, hv, hT, h5, h2 => by
    obtain ⟨h4, hL, hb⟩ := id hT
    obtain ⟨hb1, hb2⟩ := hb j (by omega)
    have i9 : vp_in (nI j) 900 := vp_in_nI (by omega) (by decide)
    refine S_X6_readInteger_10 ?_
    simp only [T_X6_readInteger_10, fi_const, fi_iload, fi_aload, fi_istore, fi_astore, fi_iinc, fi_bin, fi_div, fi_un, fi_dup, fi_dup2, fi_pop, fi_if, fi_cmp, fi_getf, fi_putf, fi_putr, fi_ald, fi_ast, fi_alen, fi_iret, fi_zret, fi_vret, fi_cut, fi_no, fi_s0, fi_s1, fi_s2, fi_s3, fi_s4, fi_v0, fi_v1, fi_v2, fi_v3, fi_v4, fi_v5, fi_n0, fi_n1, fi_n2, fi_mm, fi_stat, fi_alds, fi_tsw, List.getElem?_cons_zero, List.getElem?_cons_succ, List.set_cons_zero, List.set_cons_succ, List.length_cons, List.length_nil, Option.toList_some, Option.toList_none, List.cons_append, List.nil_append, Value.category, true_and, k_0, k_1, k_2, k_3, k_4, false_implies, true_implies, reduceCtorEq, hS.2.1, h5, h4, hS.2.2.1, i9, nI_clamp (show j < 2 ^ 31 by omega), hb2]
    refine pk_le L j (fun z => by omega) (fun _ => ⟨by decide, (c_isDigitC hb1).mono ?_⟩)
    rintro r M' ⟨rfl, rfl⟩
    simp only [fi_const, fi_iload, fi_aload, fi_istore, fi_astore, fi_iinc, fi_bin, fi_div, fi_un, fi_dup, fi_dup2, fi_pop, fi_if, fi_cmp, fi_getf, fi_putf, fi_putr, fi_ald, fi_ast, fi_alen, fi_iret, fi_zret, fi_vret, fi_cut, fi_no, fi_s0, fi_s1, fi_s2, fi_s3, fi_s4, fi_v0, fi_v1, fi_v2, fi_v3, fi_v4, fi_v5, fi_n0, fi_n1, fi_n2, fi_mm, fi_stat, fi_alds, fi_tsw, List.getElem?_cons_zero, List.getElem?_cons_succ, List.set_cons_zero, List.set_cons_succ, List.length_cons, List.length_nil, Option.toList_some, Option.toList_none, List.cons_append, List.nil_append, Value.category, true_and, k_0, k_1, k_2, k_3, k_4, false_implies, true_implies, reduceCtorEq, bI_eq0, hS.2.1, h5, nI_1, h2, hS.2.2.1, i9, nI_clamp (show j < 2 ^ 31 by omega), hb2]
    refine ⟨fun q => ?_, fun q => ?_⟩
    · have e1 : scn isDg b (n + 1) j = j := by simp only [scn]; rw [if_neg (by rw [q]; decide)]
      have e2 : ivG b (n + 1) j v = v := by simp only [ivG]; rw [if_neg (by rw [q]; decide)]
      rw [e1, e2]
      exact ⟨σ, rfl, fun _ _ _ => rfl, h5, h2⟩
    · have q' : isDg (b j) = true := by cases w : isDg (b j); exact absurd w q; rfl
      have hd : 48 ≤ b j ∧ b j ≤ 57 := by
        have z := q'
        unfold isDg at z
        simp only [Bool.and_eq_true, decide_eq_true_eq] at z
        exact z
      have ec : (if nI (if v ≤ 100000 then v else 100000) * 10 + sB (b j) - 48 < 100000 then nI (if v ≤ 100000 then v else 100000) * 10 + sB (b j) - 48 else 100000) = nI (if (if 100000 < v then v else 10 * v + (b j - 48)) ≤ 100000 then (if 100000 < v then v else 10 * v + (b j - 48)) else 100000) := by
        rw [sB_lo _ (by omega), show (10 : Int32) = nI 10 from rfl, pk_mul, nI_add, show (48 : Int32) = nI 48 from rfl, pk_sub (by omega)]
        have hc : ∀ x : Nat, x < 2 ^ 31 → ((nI x < 100000) ↔ x < 100000) := fun x hx => nI_ltI (b := 100000) hx (by decide)
        by_cases w : v ≤ 100000
        · rw [if_pos w, if_neg (show ¬ 100000 < v by omega)]
          have e : v * 10 + b j - 48 = 10 * v + (b j - 48) := by omega
          rw [e]
          by_cases y : 10 * v + (b j - 48) < 100000
          · rw [if_pos ((hc _ (by omega)).mpr y), if_pos (by omega)]
          · rw [if_neg (fun z => y ((hc _ (by omega)).mp z))]
            by_cases x : 10 * v + (b j - 48) ≤ 100000
            · rw [if_pos x, show 10 * v + (b j - 48) = 100000 by omega]; rfl
            · rw [if_neg x]; rfl
        · rw [if_neg w, if_pos (show 100000 < v by omega), if_neg w, if_neg (fun z => by have := (hc _ (by omega)).mp z; omega)]
          rfl
      refine ⟨by decide, ?_⟩
      have e5 : fs_u σ 45 2 (if nI (if v ≤ 100000 then v else 100000) * 10 + sB (b j) - 48 < 100000 then nI (if v ≤ 100000 then v else 100000) * 10 + sB (b j) - 48 else 100000) 45 5 = nI j := by simp only [fs_u]; rw [if_neg (by decide)]; exact h5
      rw [e5, nI_1, ec]
      refine fs_R_mono (l_readInt hS n (j + 1) (if 100000 < v then v else 10 * v + (b j - 48)) (fs_u (fs_u σ 45 2 (nI (if (if 100000 < v then v else 10 * v + (b j - 48)) ≤ 100000 then (if 100000 < v then v else 10 * v + (b j - 48)) else 100000))) 45 5 (nI (j + 1))) (by omega) (by split <;> omega) (hT.keep ((tkC.u (by decide) (by decide)).tr (tkC.u (by decide) (by decide)))) (u_eq ..) ?_) ?_
      · simp only [fs_u]; rw [if_neg (by decide), if_pos ⟨trivial, trivial⟩]
      rintro r M' ⟨rfl, σ', rfl, f1, f2, f3⟩
      refine ⟨rfl, σ', rfl, fun a c z => ?_, ?_, ?_⟩
      · rw [f1 a c z]
        simp only [fs_u]
        rw [if_neg (fun w => z ⟨w.1, Or.inr w.2⟩), if_neg (fun w => z ⟨w.1, Or.inl w.2⟩)]
      · rw [f2]; simp only [scn]; rw [if_pos q']
      · have e2 : ivG b (n + 1) j v = ivG b n (j + 1) (if 100000 < v then v else 10 * v + (b j - 48)) := by simp only [ivG]; rw [if_pos q']
        rw [f3, e2]
theorem l_adv52 (hS : shL S) {k : Nat} (hk : k ≤ L) (hT : TX σ b L) (h5 : σ 45 5 = nI (tS b L k)) : fs_R g m_X6_advance d (0, 0) 52 [.ref 45] [] ((S, fr), σ, τ) (fun r M' => r = none ∧ ∃ σ', M' = ((S, fr), σ', τ) ∧ tkC σ σ' ∧ TI σ' b L k) := by
  obtain ⟨h4, hL, hb⟩ := id hT
  obtain ⟨k1, k2⟩ := tS_le (b := b) hk
  obtain ⟨t0, t1⟩ := tK_of (b := b) (L := L) (k := k)
  have c1 : tkC σ (fs_u σ 45 1 (nI (tS b L k))) := tkC.u (by decide) (by decide)
  have e4 : fs_u σ 45 1 (nI (tS b L k)) 45 4 = nI L := by rw [c1 45 4 (by omega)]; exact h4
  have e5 : fs_u σ 45 1 (nI (tS b L k)) 45 5 = nI (tS b L k) := by simp only [fs_u]; rw [if_neg (by decide)]; exact h5
  have hT1 := hT.keep c1
  refine S_X6_advance_52 ?_
  simp only [T_X6_advance_52, fi_const, fi_iload, fi_aload, fi_istore, fi_astore, fi_iinc, fi_bin, fi_div, fi_un, fi_dup, fi_dup2, fi_pop, fi_if, fi_cmp, fi_getf, fi_putf, fi_putr, fi_ald, fi_ast, fi_alen, fi_iret, fi_zret, fi_vret, fi_cut, fi_no, fi_s0, fi_s1, fi_s2, fi_s3, fi_s4, fi_v0, fi_v1, fi_v2, fi_v3, fi_v4, fi_v5, fi_n0, fi_n1, fi_n2, fi_mm, fi_stat, fi_alds, fi_tsw, List.getElem?_cons_zero, List.getElem?_cons_succ, List.set_cons_zero, List.set_cons_succ, List.length_cons, List.length_nil, Option.toList_some, Option.toList_none, List.cons_append, List.nil_append, Value.category, true_and, k_0, k_1, k_2, k_3, k_4, false_implies, true_implies, reduceCtorEq, hS.2.1, h5, e5, e4]
  refine pk_lt (tS b L k) L (fun hlt => ?_) (fun hge => ?_)
  · obtain ⟨t1a, t1b⟩ := t1 (by omega)
    obtain ⟨hb1, hb2⟩ := hb (tS b L k) hlt
    have i9 : vp_in (nI (tS b L k)) 900 := vp_in_nI (by omega) (by decide)
    have e1 : fs_u σ 45 1 (nI (tS b L k)) 1 (tS b L k) = sB (b (tS b L k)) := by rw [c1.ne (by decide)]; exact hb2
    simp only [hS.2.2.1, fi_const, fi_iload, fi_aload, fi_istore, fi_astore, fi_iinc, fi_bin, fi_div, fi_un, fi_dup, fi_dup2, fi_pop, fi_if, fi_cmp, fi_getf, fi_putf, fi_putr, fi_ald, fi_ast, fi_alen, fi_iret, fi_zret, fi_vret, fi_cut, fi_no, fi_s0, fi_s1, fi_s2, fi_s3, fi_s4, fi_v0, fi_v1, fi_v2, fi_v3, fi_v4, fi_v5, fi_n0, fi_n1, fi_n2, fi_mm, fi_stat, fi_alds, fi_tsw, List.getElem?_cons_zero, List.getElem?_cons_succ, List.set_cons_zero, List.set_cons_succ, List.length_cons, List.length_nil, Option.toList_some, Option.toList_none, List.cons_append, List.nil_append, Value.category, true_and, k_0, k_1, k_2, k_3, k_4, false_implies, true_implies, reduceCtorEq, i9, nI_clamp (show tS b L k < 2 ^ 31 by omega), e1]
    refine ⟨by decide, (c_isLetter hb1).mono ?_⟩
    rintro r M' ⟨rfl, rfl⟩
    simp only [fi_const, fi_iload, fi_aload, fi_istore, fi_astore, fi_iinc, fi_bin, fi_div, fi_un, fi_dup, fi_dup2, fi_pop, fi_if, fi_cmp, fi_getf, fi_putf, fi_putr, fi_ald, fi_ast, fi_alen, fi_iret, fi_zret, fi_vret, fi_cut, fi_no, fi_s0, fi_s1, fi_s2, fi_s3, fi_s4, fi_v0, fi_v1, fi_v2, fi_v3, fi_v4, fi_v5, fi_n0, fi_n1, fi_n2, fi_mm, fi_stat, fi_alds, fi_tsw, List.getElem?_cons_zero, List.getElem?_cons_succ, List.set_cons_zero, List.set_cons_succ, List.length_cons, List.length_nil, Option.toList_some, Option.toList_none, List.cons_append, List.nil_append, Value.category, true_and, k_0, k_1, k_2, k_3, k_4, false_implies, true_implies, reduceCtorEq, bI_eq0, hS.2.1, e5, hS.2.2.1, i9, nI_clamp (show tS b L k < 2 ^ 31 by omega), e1]
    refine ⟨fun q => ⟨by decide, (c_isDigitC hb1).mono ?_⟩, fun q => ⟨by decide, ⟨_, rfl⟩, ?_⟩⟩
    · rintro r M' ⟨rfl, rfl⟩
      obtain ⟨t2a, t2b⟩ := t1b q
      simp only [fi_const, fi_iload, fi_aload, fi_istore, fi_astore, fi_iinc, fi_bin, fi_div, fi_un, fi_dup, fi_dup2, fi_pop, fi_if, fi_cmp, fi_getf, fi_putf, fi_putr, fi_ald, fi_ast, fi_alen, fi_iret, fi_zret, fi_vret, fi_cut, fi_no, fi_s0, fi_s1, fi_s2, fi_s3, fi_s4, fi_v0, fi_v1, fi_v2, fi_v3, fi_v4, fi_v5, fi_n0, fi_n1, fi_n2, fi_mm, fi_stat, fi_alds, fi_tsw, List.getElem?_cons_zero, List.getElem?_cons_succ, List.set_cons_zero, List.set_cons_succ, List.length_cons, List.length_nil, Option.toList_some, Option.toList_none, List.cons_append, List.nil_append, Value.category, true_and, k_0, k_1, k_2, k_3, k_4, false_implies, true_implies, reduceCtorEq, bI_eq0, hS.2.1, e5, hS.2.2.1, i9, nI_clamp (show tS b L k < 2 ^ 31 by omega), e1]
      refine ⟨fun q2 => ?_, fun q2 => ⟨by decide, ⟨_, rfl⟩, ?_⟩⟩
      · obtain ⟨t3a, t3b⟩ := t2b q2
        have s59 : sB (b (tS b L k)) = 59 ↔ b (tS b L k) = 59 := sB_eq (c := 59) hb1 (by decide)
        have fin : ∀ x : Nat, tK b L k = x → x ≠ 0 → x ≠ 1 → x ≠ 2 → ∃ σ', ((S, fr), fs_u (fs_u (fs_u σ 45 1 (nI (tS b L k))) 45 0 (nI x)) 45 5 (nI (tS b L k + 1)), τ) = ((S, fr), σ', τ) ∧ tkC σ σ' ∧ TI σ' b L k := by
          intro x hx n0 n1 n2
          refine ⟨_, rfl, (c1.tr (tkC.u (by decide) (by decide))).tr (tkC.u (by decide) (by decide)), ?_, ?_, ?_, fun z => by omega⟩
          · simp only [fs_u]; rw [if_neg (by decide), if_pos ⟨trivial, trivial⟩, hx]
          · simp only [fs_u]; rw [if_neg (by decide), if_neg (by decide), if_pos ⟨trivial, trivial⟩]
          · rw [u_eq]; unfold tE; rw [if_neg (by omega), if_neg (by omega), if_neg (by omega)]
        have e5' : ∀ x, fs_u (fs_u σ 45 1 (nI (tS b L k))) 45 0 x 45 5 = nI (tS b L k) := fun x => by simp only [fs_u]; rw [if_neg (by decide), if_neg (by decide)]; exact h5
        refine ⟨fun q3 => ?_, fun q3 => ?_⟩
        · rw [e5', nI_1]; exact fin 3 (t3a (s59.mp q3)) (by decide) (by decide) (by decide)
        · rw [e5', nI_1]; exact fin 4 (t3b (fun z => q3 (s59.mpr z))) (by decide) (by decide) (by decide)
      · have q2' : isDg (b (tS b L k)) = true := by cases w : isDg (b (tS b L k)); exact absurd w q2; rfl
        have hk2 := t2a q2'
        have hri : fs_Ct g m_X6_readInteger [.ref 45] ((S, fr), fs_u σ 45 1 (nI (tS b L k)), τ) (fun r M' => r = none ∧ ∃ σ', M' = ((S, fr), σ', τ) ∧ tkC σ σ' ∧ TI σ' b L k) := by
          refine fs_enterC (by decide) (by simp [fs_ok]) (Nat.le_of_ble_eq_true rfl) (fun d => S_X6_readInteger_0 ?_)
          show T_X6_readInteger_0 g d _ [.ref 45] [] _
          simp only [T_X6_readInteger_0, fi_const, fi_iload, fi_aload, fi_istore, fi_astore, fi_iinc, fi_bin, fi_div, fi_un, fi_dup, fi_dup2, fi_pop, fi_if, fi_cmp, fi_getf, fi_putf, fi_putr, fi_ald, fi_ast, fi_alen, fi_iret, fi_zret, fi_vret, fi_cut, fi_no, fi_s0, fi_s1, fi_s2, fi_s3, fi_s4, fi_v0, fi_v1, fi_v2, fi_v3, fi_v4, fi_v5, fi_n0, fi_n1, fi_n2, fi_mm, fi_stat, fi_alds, fi_tsw, List.getElem?_cons_zero, List.getElem?_cons_succ, List.set_cons_zero, List.set_cons_succ, List.length_cons, List.length_nil, Option.toList_some, Option.toList_none, List.cons_append, List.nil_append, Value.category, true_and, k_0, k_1, k_2, k_3, k_4, false_implies, true_implies, reduceCtorEq]
          simp only [fi_const, fi_iload, fi_aload, fi_istore, fi_astore, fi_iinc, fi_bin, fi_div, fi_un, fi_dup, fi_dup2, fi_pop, fi_if, fi_cmp, fi_getf, fi_putf, fi_putr, fi_ald, fi_ast, fi_alen, fi_iret, fi_zret, fi_vret, fi_cut, fi_no, fi_s0, fi_s1, fi_s2, fi_s3, fi_s4, fi_v0, fi_v1, fi_v2, fi_v3, fi_v4, fi_v5, fi_n0, fi_n1, fi_n2, fi_mm, fi_stat, fi_alds, fi_tsw, List.getElem?_cons_zero, List.getElem?_cons_succ, List.set_cons_zero, List.set_cons_succ, List.length_cons, List.length_nil, Option.toList_some, Option.toList_none, List.cons_append, List.nil_append, Value.category, true_and, k_0, k_1, k_2, k_3, k_4, false_implies, true_implies, reduceCtorEq, hS.2.1]
          refine fs_R_mono (l_readInt hS (L - tS b L k) (tS b L k) 0 _ (by omega) (by decide) (hT1.keep ((tkC.u (by decide) (by decide)).tr (tkC.u (by decide) (by decide)))) ?_ ?_) ?_
          · simp only [fs_u]; rw [if_neg (by decide), if_neg (by decide), if_neg (by decide)]; exact h5
          · rw [u_eq]; rfl
          rintro r M' ⟨rfl, σ', rfl, f1, f2, f3⟩
          refine ⟨rfl, σ', rfl, fun a c z => ?_, ?_, ?_, ?_, fun _ => f3⟩
          · rw [f1 a c (fun w => z ⟨w.1, by omega, by omega⟩)]
            simp only [fs_u]
            rw [if_neg (fun w => z ⟨w.1, by omega, by omega⟩), if_neg (fun w => z ⟨w.1, by omega, by omega⟩), if_neg (fun w => z ⟨w.1, by omega, by omega⟩)]
          · rw [f1 45 0 (by omega)]; simp only [fs_u]; rw [if_neg (by decide), if_pos ⟨trivial, trivial⟩, hk2]; rfl
          · rw [f1 45 1 (by omega)]; simp only [fs_u]; rw [if_neg (by decide), if_neg (by decide), if_pos ⟨trivial, trivial⟩]
          · rw [f2]; unfold tE; rw [if_neg (by omega), if_neg (by omega), if_pos hk2]
        refine hri.mono ?_
        rintro r M' ⟨rfl, h⟩
        simp only [fi_const, fi_iload, fi_aload, fi_istore, fi_astore, fi_iinc, fi_bin, fi_div, fi_un, fi_dup, fi_dup2, fi_pop, fi_if, fi_cmp, fi_getf, fi_putf, fi_putr, fi_ald, fi_ast, fi_alen, fi_iret, fi_zret, fi_vret, fi_cut, fi_no, fi_s0, fi_s1, fi_s2, fi_s3, fi_s4, fi_v0, fi_v1, fi_v2, fi_v3, fi_v4, fi_v5, fi_n0, fi_n1, fi_n2, fi_mm, fi_stat, fi_alds, fi_tsw, List.getElem?_cons_zero, List.getElem?_cons_succ, List.set_cons_zero, List.set_cons_succ, List.length_cons, List.length_nil, Option.toList_some, Option.toList_none, List.cons_append, List.nil_append, Value.category, true_and, k_0, k_1, k_2, k_3, k_4, false_implies, true_implies, reduceCtorEq]
        exact h
    · have q' : isLt (b (tS b L k)) = true := by cases w : isLt (b (tS b L k)); exact absurd w q; rfl
      have hk1 := t1a q'
      have hrw : fs_Ct g m_X6_readWord [.ref 45] ((S, fr), fs_u σ 45 1 (nI (tS b L k)), τ) (fun r M' => r = none ∧ ∃ σ', M' = ((S, fr), σ', τ) ∧ tkC σ σ' ∧ TI σ' b L k) := by
        refine fs_enterC (by decide) (by simp [fs_ok]) (Nat.le_of_ble_eq_true rfl) (fun d => S_X6_readWord_0 ?_)
        show T_X6_readWord_0 g d _ [.ref 45] [] _
        simp only [T_X6_readWord_0, fi_const, fi_iload, fi_aload, fi_istore, fi_astore, fi_iinc, fi_bin, fi_div, fi_un, fi_dup, fi_dup2, fi_pop, fi_if, fi_cmp, fi_getf, fi_putf, fi_putr, fi_ald, fi_ast, fi_alen, fi_iret, fi_zret, fi_vret, fi_cut, fi_no, fi_s0, fi_s1, fi_s2, fi_s3, fi_s4, fi_v0, fi_v1, fi_v2, fi_v3, fi_v4, fi_v5, fi_n0, fi_n1, fi_n2, fi_mm, fi_stat, fi_alds, fi_tsw, List.getElem?_cons_zero, List.getElem?_cons_succ, List.set_cons_zero, List.set_cons_succ, List.length_cons, List.length_nil, Option.toList_some, Option.toList_none, List.cons_append, List.nil_append, Value.category, true_and, k_0, k_1, k_2, k_3, k_4, false_implies, true_implies, reduceCtorEq]
        simp only [fi_const, fi_iload, fi_aload, fi_istore, fi_astore, fi_iinc, fi_bin, fi_div, fi_un, fi_dup, fi_dup2, fi_pop, fi_if, fi_cmp, fi_getf, fi_putf, fi_putr, fi_ald, fi_ast, fi_alen, fi_iret, fi_zret, fi_vret, fi_cut, fi_no, fi_s0, fi_s1, fi_s2, fi_s3, fi_s4, fi_v0, fi_v1, fi_v2, fi_v3, fi_v4, fi_v5, fi_n0, fi_n1, fi_n2, fi_mm, fi_stat, fi_alds, fi_tsw, List.getElem?_cons_zero, List.getElem?_cons_succ, List.set_cons_zero, List.set_cons_succ, List.length_cons, List.length_nil, Option.toList_some, Option.toList_none, List.cons_append, List.nil_append, Value.category, true_and, k_0, k_1, k_2, k_3, k_4, false_implies, true_implies, reduceCtorEq, hS.2.1]
        refine fs_R_mono (l_readWord hS (L - tS b L k) (tS b L k) _ (by omega) (hT1.keep (tkC.u (by decide) (by decide))) ?_) ?_
        · simp only [fs_u]; rw [if_neg (by decide), if_neg (by decide)]; exact h5
        rintro r M' ⟨rfl, rfl⟩
        refine ⟨rfl, _, rfl, (c1.tr (tkC.u (by decide) (by decide))).tr (tkC.u (by decide) (by decide)), ?_, ?_, ?_, fun z => by omega⟩
        · simp only [fs_u]; rw [if_neg (by decide), if_pos ⟨trivial, trivial⟩, hk1]; rfl
        · simp only [fs_u]; rw [if_neg (by decide), if_neg (by decide), if_pos ⟨trivial, trivial⟩]
        · rw [u_eq]; unfold tE; rw [if_neg (by omega), if_pos hk1]
      refine hrw.mono ?_
      rintro r M' ⟨rfl, h⟩
      simp only [fi_const, fi_iload, fi_aload, fi_istore, fi_astore, fi_iinc, fi_bin, fi_div, fi_un, fi_dup, fi_dup2, fi_pop, fi_if, fi_cmp, fi_getf, fi_putf, fi_putr, fi_ald, fi_ast, fi_alen, fi_iret, fi_zret, fi_vret, fi_cut, fi_no, fi_s0, fi_s1, fi_s2, fi_s3, fi_s4, fi_v0, fi_v1, fi_v2, fi_v3, fi_v4, fi_v5, fi_n0, fi_n1, fi_n2, fi_mm, fi_stat, fi_alds, fi_tsw, List.getElem?_cons_zero, List.getElem?_cons_succ, List.set_cons_zero, List.set_cons_succ, List.length_cons, List.length_nil, Option.toList_some, Option.toList_none, List.cons_append, List.nil_append, Value.category, true_and, k_0, k_1, k_2, k_3, k_4, false_implies, true_implies, reduceCtorEq]
      exact h
  · have hk0 := t0 hge
    refine ⟨_, rfl, c1.tr (tkC.u (by decide) (by decide)), ?_, ?_, ?_, fun z => by omega⟩
    · rw [u_eq, hk0]; rfl
    · simp only [fs_u]; rw [if_neg (by decide), if_pos ⟨trivial, trivial⟩]
    · simp only [fs_u]; rw [if_neg (by decide), if_neg (by decide), h5]; unfold tE; rw [if_pos hk0]
theorem l_adv0 (hS : shL S) {k : Nat} (hk : k ≤ L) : ∀ n j σ, j + n = L → TX σ b L → σ 45 5 = nI j → scn isSp b n j = tS b L k → fs_R g m_X6_advance d (0, 0) 0 [.ref 45] [] ((S, fr), σ, τ) (fun r M' => r = none ∧ ∃ σ', M' = ((S, fr), σ', τ) ∧ tkC σ σ' ∧ TI σ' b L k)
  | 0, j, σ, hj, hT, h5, hs => by
    obtain ⟨h4, hL, hb⟩ := id hT
    refine S_X6_advance_0 ?_
    simp only [T_X6_advance_0, fi_const, fi_iload, fi_aload, fi_istore, fi_astore, fi_iinc, fi_bin, fi_div, fi_un, fi_dup, fi_dup2, fi_pop, fi_if, fi_cmp, fi_getf, fi_putf, fi_putr, fi_ald, fi_ast, fi_alen, fi_iret, fi_zret, fi_vret, fi_cut, fi_no, fi_s0, fi_s1, fi_s2, fi_s3, fi_s4, fi_v0, fi_v1, fi_v2, fi_v3, fi_v4, fi_v5, fi_n0, fi_n1, fi_n2, fi_mm, fi_stat, fi_alds, fi_tsw, List.getElem?_cons_zero, List.getElem?_cons_succ, List.set_cons_zero, List.set_cons_succ, List.length_cons, List.length_nil, Option.toList_some, Option.toList_none, List.cons_append, List.nil_append, Value.category, true_and, k_0, k_1, k_2, k_3, k_4, false_implies, true_implies, reduceCtorEq, hS.2.1, h5, h4]
    refine pk_le L j (fun _ => ?_) (fun z => by omega)
    exact l_adv52 hS hk hT (by rw [h5, ← hs]; rfl)
  | n + 1, j, σ, hj, hT, h5, hs => by
    obtain ⟨h4, hL, hb⟩ := id hT
    obtain ⟨hb1, hb2⟩ := hb j (by omega)
    have i9 : vp_in (nI j) 900 := vp_in_nI (by omega) (by decide)
    have s32 : sB (b j) = 32 ↔ b j = 32 := sB_eq (c := 32) hb1 (by decide)
    have s10 : sB (b j) = 10 ↔ b j = 10 := sB_eq (c := 10) hb1 (by decide)
    have go : isSp (b j) = true → fs_R g m_X6_advance d (0, 0) 0 [.ref 45] [] ((S, fr), fs_u σ 45 5 (nI (j + 1)), τ) (fun r M' => r = none ∧ ∃ σ', M' = ((S, fr), σ', τ) ∧ tkC σ σ' ∧ TI σ' b L k) := by
      intro q
      simp only [scn] at hs
      rw [if_pos q] at hs
      refine fs_R_mono (l_adv0 hS hk n (j + 1) (fs_u σ 45 5 (nI (j + 1))) (by omega) (hT.keep (tkC.u (by decide) (by decide))) (u_eq ..) hs) ?_
      rintro r M' ⟨rfl, σ', rfl, f1, f2⟩
      exact ⟨rfl, σ', rfl, (tkC.u (by decide) (by decide)).tr f1, f2⟩
    refine S_X6_advance_0 ?_
    simp only [T_X6_advance_0, fi_const, fi_iload, fi_aload, fi_istore, fi_astore, fi_iinc, fi_bin, fi_div, fi_un, fi_dup, fi_dup2, fi_pop, fi_if, fi_cmp, fi_getf, fi_putf, fi_putr, fi_ald, fi_ast, fi_alen, fi_iret, fi_zret, fi_vret, fi_cut, fi_no, fi_s0, fi_s1, fi_s2, fi_s3, fi_s4, fi_v0, fi_v1, fi_v2, fi_v3, fi_v4, fi_v5, fi_n0, fi_n1, fi_n2, fi_mm, fi_stat, fi_alds, fi_tsw, List.getElem?_cons_zero, List.getElem?_cons_succ, List.set_cons_zero, List.set_cons_succ, List.length_cons, List.length_nil, Option.toList_some, Option.toList_none, List.cons_append, List.nil_append, Value.category, true_and, k_0, k_1, k_2, k_3, k_4, false_implies, true_implies, reduceCtorEq, hS.2.1, h5, h4, hS.2.2.1, i9, nI_clamp (show j < 2 ^ 31 by omega), hb2, nI_1]
    refine pk_le L j (fun z => by omega) (fun _ => ⟨fun q => ?_, fun q => ⟨fun q2 => ?_, fun q2 => ?_⟩⟩)
    · exact go (by unfold isSp; rw [s32.mp q]; rfl)
    · exact go (by unfold isSp; rw [s10.mp q2]; rfl)
    · refine l_adv52 hS hk hT ?_
      have : isSp (b j) = false := by
        unfold isSp
        rw [decide_eq_false (fun z => q (s32.mpr z)), decide_eq_false (fun z => q2 (s10.mpr z))]; rfl
      simp only [scn] at hs
      rw [if_neg (by rw [this]; decide)] at hs
      rw [h5, hs]
theorem c_advance (hS : shL S) {k : Nat} (hk : k ≤ L) (hT : TX σ b L) (h5 : σ 45 5 = nI k) : fs_Ct g m_X6_advance [.ref 45] ((S, fr), σ, τ) (fun r M' => r = none ∧ ∃ σ', M' = ((S, fr), σ', τ) ∧ tkC σ σ' ∧ TI σ' b L k) := by
  refine fs_enterC (by decide) (by simp [fs_ok]) (Nat.le_of_ble_eq_true rfl) (fun d => ?_)
  exact l_adv0 hS hk (L - k) k σ (by omega) hT h5 rfl
end PT1
