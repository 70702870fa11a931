/-! ===== the law: until its loop ===== -/
def S70 : List fs_Sh := S56 ++ (shX9 ++ [.inl (.long, 1)])
theorem S70_X : shX S70 := ⟨rfl, rfl, ⟨rfl, rfl, rfl, rfl, rfl, rfl, rfl, rfl, rfl, rfl, rfl, rfl⟩, ⟨rfl, rfl, rfl, rfl, rfl, rfl⟩, ⟨rfl, rfl, rfl, rfl, rfl, rfl⟩, rfl, rfl, ⟨rfl, rfl⟩, ⟨rfl, rfl, rfl, rfl, rfl, rfl, rfl, rfl, rfl, rfl, rfl, rfl, rfl⟩⟩
theorem S70_S : shS S70 := ⟨rfl, rfl, rfl, rfl, rfl, rfl⟩
theorem S70_L : shL S70 := ⟨rfl, rfl, rfl, ⟨rfl, rfl, rfl, rfl, rfl, rfl, rfl, rfl, rfl, rfl, rfl, rfl⟩, ⟨rfl, rfl, rfl, rfl, rfl, rfl⟩⟩
theorem S70_O : S70[69]? = some (.inl (.long, 1)) := rfl
section LW0
variable {g : fs_G} {N d : Nat} {σ : Nat → Nat → Int32} {τ : Nat → Nat → Int64} {Q : Option Value → fs_M → Prop}
theorem IC.low {σ σ' : Nat → Nat → Int32} {V : Vt} {nL nA nS kp nb : Nat} (h : IC σ V nL nA nS kp nb) (hs : ∀ a, a < 56 → σ' a = σ a) : IC σ' V nL nA nS kp nb := h.keep (fun a h1 _ _ => hs a h1)
theorem l_law0 (K : ∀ σ' τ', IC σ' V0 0 0 0 0 0 → IM σ' V0 0 0 → fs_R g (m_L_law N) d (70, 3237) 23 [.ref 10050, .ref 0, .ref 56, .ref 69, .int 0, .null, .null] [] ((S70, true), σ', τ') Q) : fs_R g (m_L_law N) d (0, 0) 0 [.ref 10050, .null, .null, .null, .null, .null, .null] [] (([], true), σ, τ) Q := by
  refine S_L_law_0 ?_
  simp only [T_L_law_0, fi_new, fi_newa, fi_const, fi_iload, fi_aload, fi_istore, fi_astore, fi_iinc, fi_bin, fi_div, fi_un, fi_dup, fi_dup2, fi_pop, fi_if, fi_cmp, fi_getf, fi_putf, fi_putr, fi_ald, fi_ast, fi_alen, fi_iret, fi_zret, fi_vret, fi_cut, fi_no, fi_s0, fi_s1, fi_s2, fi_s3, fi_s4, fi_v0, fi_v1, fi_v2, fi_v3, fi_v4, fi_v5, fi_n0, fi_n1, fi_n2, fi_mm, fi_stat, fi_alds, fi_tsw, List.getElem?_cons_zero, List.getElem?_cons_succ, List.set_cons_zero, List.set_cons_succ, List.length_cons, List.length_nil, Option.toList_some, Option.toList_none, List.cons_append, List.nil_append, Value.category, true_and, k_0, k_1, k_2, k_3, k_4, false_implies, true_implies, reduceCtorEq]
  refine ⟨by decide, by decide, (c_X8_init (by simp [fs_z])).mono ?_⟩
  rintro r M' ⟨rfl, σ1, τ1, rfl, h1⟩
  simp only [fi_const, fi_iload, fi_aload, fi_istore, fi_astore, fi_iinc, fi_bin, fi_div, fi_un, fi_dup, fi_dup2, fi_pop, fi_if, fi_cmp, fi_getf, fi_putf, fi_putr, fi_ald, fi_ast, fi_alen, fi_iret, fi_zret, fi_vret, fi_cut, fi_no, fi_s0, fi_s1, fi_s2, fi_s3, fi_s4, fi_v0, fi_v1, fi_v2, fi_v3, fi_v4, fi_v5, fi_n0, fi_n1, fi_n2, fi_mm, fi_stat, fi_alds, fi_tsw, List.getElem?_cons_zero, List.getElem?_cons_succ, List.set_cons_zero, List.set_cons_succ, List.length_cons, List.length_nil, Option.toList_some, Option.toList_none, List.cons_append, List.nil_append, Value.category, true_and, k_0, k_1, k_2, k_3, k_4, false_implies, true_implies, reduceCtorEq]
  refine ⟨by decide, by decide, ?_⟩
  refine (c_X9_init (P := S56) rfl (by intro b; simp [fs_z, show S56.length = 56 from rfl])).mono ?_
  rintro r M' ⟨rfl, σ2, τ2, rfl, h2, k2⟩
  simp only [fi_const, fi_iload, fi_aload, fi_istore, fi_astore, fi_iinc, fi_bin, fi_div, fi_un, fi_dup, fi_dup2, fi_pop, fi_if, fi_cmp, fi_getf, fi_putf, fi_putr, fi_ald, fi_ast, fi_alen, fi_iret, fi_zret, fi_vret, fi_cut, fi_no, fi_s0, fi_s1, fi_s2, fi_s3, fi_s4, fi_v0, fi_v1, fi_v2, fi_v3, fi_v4, fi_v5, fi_n0, fi_n1, fi_n2, fi_mm, fi_stat, fi_alds, fi_tsw, List.getElem?_cons_zero, List.getElem?_cons_succ, List.set_cons_zero, List.set_cons_succ, List.length_cons, List.length_nil, Option.toList_some, Option.toList_none, List.cons_append, List.nil_append, Value.category, true_and, k_0, k_1, k_2, k_3, k_4, false_implies, true_implies, reduceCtorEq]
  refine ⟨rfl, by decide, ?_⟩
  have z : ∀ (σ : Nat → Nat → Int32) (n a : Nat), a ≠ n → fs_z σ n a = σ a := fun σ n a hn => funext fun b => by unfold fs_z; rw [if_neg hn]
  refine K (fs_z σ2 69) _ (h1.low (fun a ha => ?_)) ?_
  · rw [z _ _ _ (by omega), k2 a ha, show S56.length = 56 from rfl, z _ _ _ (by omega)]
  · obtain ⟨m1, m2, m3, m4, m5, m6, m7⟩ := h2
    exact ⟨by rw [z _ _ _ (by decide)]; exact m1, by rw [z _ _ _ (by decide)]; exact m2, fun b hb => absurd hb (by omega), fun i hi => absurd hi (Nat.not_lt_zero i), by rw [z _ _ _ (by decide)]; exact m5, by rw [z _ _ _ (by decide)]; exact m6, by rw [z _ _ _ (by decide)]; exact m7⟩
end LW0
