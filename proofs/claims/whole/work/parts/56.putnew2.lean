/-! ===== a new node of a file, in the reference ===== -/
section
variable {M : xM} {D E X Y Z X' : xT} {C : xC} {R N : Nat → Int32} {fu b d L s o t k n m i j p q f l w nb nw a : Nat} {x y z v u : Int32} {nt : Bool}
theorem nodeX_96 {k0 k1 k2 k3 k4 : Int32} : nodeX X k0 k1 k2 k3 k4 96 0 = k0 ∧ nodeX X k0 k1 k2 k3 k4 96 1 = k1 ∧ nodeX X k0 k1 k2 k3 k4 96 2 = k2 ∧ nodeX X k0 k1 k2 k3 k4 96 3 = k3 ∧ nodeX X k0 k1 k2 k3 k4 96 4 = k4 := by
  unfold nodeX
  refine ⟨?_, ?_, ?_, ?_, ?_⟩
  · rw [up_ne (by omega), up_ne (by omega), up_ne (by omega), up_ne (by omega), up_eq]
  · rw [up_ne (by omega), up_ne (by omega), up_ne (by omega), up_eq]
  · rw [up_ne (by omega), up_ne (by omega), up_eq]
  · rw [up_ne (by omega), up_eq]
  · rw [up_eq]
theorem t_putsNew (h : Lay M) (hM : MCfg C X) (hb : b ≤ 2140) (hB : CB C) (hR : Rel C b D X) (hI : Inv C L D) (hL : L + 1 < 1000000) (he : ¬ D 15 3 = 0) (hx : x ≠ 3) (hf : 100 < fu) :
    ∃ X', F_X12_putsNew fu 0 (i3 b) x y z v (mmb X M) = some (bz (putNewT false D (C 0 0) (C 0 1) x y z v).1, mmb X' M) ∧ Rel C b (putNewT false D (C 0 0) (C 0 1) x y z v).2 X' ∧ MCfg C X' ∧ Fm b X X' ∧ X' 0 22 = -1 ∧ X' 95 (b + 6) = X 95 (b + 6) + 1 := by
  have h0 := Inv_last hI hL
  have hR0 := Rel_last hR
  have he0 : ¬ up D 14 10 (D 14 10 + 1) 15 3 = 0 := by rw [up_ne (by omega)]; exact he
  obtain ⟨hO, hA, hN, hS, hMp, hC, hOo, hIB⟩ := h0
  have hrun : F_X12_putsNew fu 0 (i3 b) x y z v (mmb X M) = (F_X12_puts fu 0 (i3 b) (mmb (nodeX (up X 95 b (X 95 b + 1)) x (X 95 b + 1) y z v) M)).bind fun p_12 => gd (xbool p_12.1) (some (p_12.1, p_12.2)) := by
    unfold F_X12_putsNew
    simp only [e16]
    simp (disch := first | assumption | omega) only [l12_0_1, l12_0_4, l12_0_5, l12_0_6, l12_0_9, l12_0_10, l12_0_11, l12_0_13, l12_0_14, l12_0_15, l12_0_16, l12_0_17, l12_0_18, l12_0_19, l12_0_23, l12_0_24, l12_0_25, l12_0_27, n20_83, n20_84, n20_85, n20_86, n20_87, n20_88, n20_89, n20_90, n20_91, n20_92, n20_93, n20_94, n20_95, n20_96, n20_97, n20_98, n21_2, n21_3, n21_4, n21_5, n21_6, n22_20, m_0, m_1, m_87, m_88, m_89, m_90, m_91, m_92, m_93, m_94, m_95, m_96, m_97, m_98, p_0, p_1, p_87, p_88, p_89, p_90, p_91, p_92, p_93, p_94, p_95, p_96, p_97, p_98, gR_mmb, gN_mmb, gL_mmb, i3_add1, i3_add, i3_mul, i3_addl, i3_mull, i3_ladd, i3_lmul, i3_div4, i3_le, i3_lt, i3_eq, i3_lel, i3_lle, i3_ltl, i3_llt, i3_eql, i3_leq, i3_nl, i3_0l, i3_nn, n1_lt, n1_le, xi_i3, xin_i3, xi_lit, xin_lit, xb0, xb1, gd_t, nz4, Option.bind_some, gR_emb, gN_emb, gL_emb, ↓reduceIte, if_true, if_false, not_true_eq_false, not_false_eq_true, eq_self, Nat.not_lt_zero, Nat.zero_le, true_or, or_true, false_or, or_false, true_and, and_true, false_and, and_false]
    rw [t_clrNode h hf]
    obtain ⟨fu', hfu⟩ : ∃ w, fu - 13 = w + 1 := ⟨fu - 14, by omega⟩
    rw [hfu]
    conv => lhs; unfold L_X12_putsNew_15
    rw [if_pos (by decide)]
    simp only [e16]
    simp (disch := first | assumption | omega) only [l12_0_1, l12_0_4, l12_0_5, l12_0_6, l12_0_9, l12_0_10, l12_0_11, l12_0_13, l12_0_14, l12_0_15, l12_0_16, l12_0_17, l12_0_18, l12_0_19, l12_0_23, l12_0_24, l12_0_25, l12_0_27, n20_83, n20_84, n20_85, n20_86, n20_87, n20_88, n20_89, n20_90, n20_91, n20_92, n20_93, n20_94, n20_95, n20_96, n20_97, n20_98, n21_2, n21_3, n21_4, n21_5, n21_6, n22_20, m_0, m_1, m_87, m_88, m_89, m_90, m_91, m_92, m_93, m_94, m_95, m_96, m_97, m_98, p_0, p_1, p_87, p_88, p_89, p_90, p_91, p_92, p_93, p_94, p_95, p_96, p_97, p_98, gR_mmb, gN_mmb, gL_mmb, i3_add1, i3_add, i3_mul, i3_addl, i3_mull, i3_ladd, i3_lmul, i3_div4, i3_le, i3_lt, i3_eq, i3_lel, i3_lle, i3_ltl, i3_llt, i3_eql, i3_leq, i3_nl, i3_0l, i3_nn, n1_lt, n1_le, xi_i3, xin_i3, xi_lit, xin_lit, xb0, xb1, gd_t, nz4, Option.bind_some, gR_emb, gN_emb, gL_emb, ↓reduceIte, if_true, if_false, not_true_eq_false, not_false_eq_true, eq_self, Nat.not_lt_zero, Nat.zero_le, true_or, or_true, false_or, or_false, true_and, and_true, false_and, and_false]
    have e95 : up (fun j k => if j = 96 ∧ k < 13 then -1 else up X 95 b (X 95 b + 1) j k : xT) 96 0 x 95 b = X 95 b + 1 := by
      rw [up_ne (by omega)]
      show (if 95 = 96 ∧ b < 13 then -1 else up X 95 b (X 95 b + 1) 95 b) = _
      rw [if_neg (by omega), up_eq]
    rw [e95]
    rfl
  have hR3 : Rel C b (up D 14 10 (D 14 10 + 1)) (nodeX (up X 95 b (X 95 b + 1)) x (X 95 b + 1) y z v) := Rel_95 hR0 (fun k' => nodeX_o (by decide))
  have hM3 : MCfg C (nodeX (up X 95 b (X 95 b + 1)) x (X 95 b + 1) y z v) := MCfg_90 hM (fun k' => by rw [nodeX_o (by decide), up_ne (by omega)])
  obtain ⟨n0, n1, n2, n3, n4⟩ := @nodeX_96 (up X 95 b (X 95 b + 1)) x (X 95 b + 1) y z v
  have hno : ∀ j k, j ≠ 96 → (j ≠ 95 ∨ k ≠ b) → nodeX (up X 95 b (X 95 b + 1)) x (X 95 b + 1) y z v j k = X j k := fun j k h1 h2 => by rw [nodeX_o h1, up_ne (by omega)]
  have hseq : X 95 b + 1 = up D 14 10 (D 14 10 + 1) 14 10 := by rw [up_eq, hR.1]
  generalize nodeX (up X 95 b (X 95 b + 1)) x (X 95 b + 1) y z v = X3 at *
  obtain ⟨X', g1, g2, g3⟩ := t_puts (fu := fu) (M := M) h hM3 hb hB hR3 hO hIB hOo.2.1 he0 hf
  have hg2 := g2
  obtain ⟨q1, q2, q3, q4, q5, q6⟩ := g2
  have hFm : Fm b X X' := by
    have hs := Fm_sim hb hg2
    refine ⟨fun j k a1 a2 a3 a4 a5 => by rw [hs.1 j k a1 a2 a3 a4 a5, hno j k a5 (Or.inl a4)], fun k hk => by rw [hs.2.1 k hk, hno 95 k (by decide) (by omega)], fun b' hb' hne e => ?_⟩
    rw [q1] at e
    exact absurd e (neg_i3 (by omega))
  refine ⟨X', ?_, ?_, MCfg_90 hM (fun k' => hFm.1 90 k' (by omega) (by decide) (by decide) (by decide) (by decide)), hFm, q1, by rw [q4, hno 95 _ (by decide) (by omega)]⟩
  · rw [hrun, g1, Option.bind_some, bz_x, gd_t]
    unfold putNewT
    by_cases c : up D 14 10 (D 14 10 + 1) 14 2 = 1
    · have := g3.mp c
      generalize putT false (up D 14 10 (D 14 10 + 1)) (C 0 0) (C 0 1) = P at this ⊢
      obtain ⟨o', D1⟩ := P
      simp only at this
      subst this
      rw [decide_eq_true c]; rfl
    · have : ¬ (putT false (up D 14 10 (D 14 10 + 1)) (C 0 0) (C 0 1)).1 = none := fun q => c (g3.mpr q)
      generalize putT false (up D 14 10 (D 14 10 + 1)) (C 0 0) (C 0 1) = P at this ⊢
      obtain ⟨o', D1⟩ := P
      cases o' with
      | none => exact absurd rfl this
      | some s => rw [decide_eq_false c]; rfl
  · unfold putNewT
    have hsl := fun s => putT_slot (nt := false) (s := s) hO
    generalize hP : putT false (up D 14 10 (D 14 10 + 1)) (C 0 0) (C 0 1) = P at q5 q6 hsl ⊢
    obtain ⟨o', D1⟩ := P
    cases o' with
    | none => exact q5 D1 rfl
    | some s =>
      have h1 : D1 14 10 = up D 14 10 (D 14 10 + 1) 14 10 := (hsl s rfl).2.2 14 10 (by omega)
      show Rel C b (fillT D1 s x (D1 14 10) y z v) X'
      refine q6 s D1 rfl _ (fun j k hj => fillT_lo (by omega)) (fun j t ht h1 h2 => fillT_lo (by omega)) (fun j t n ht hn hj => fillT_lo (by omega)) ?_ (fun _ => ⟨?_, ?_, ?_, ?_⟩) (fun e => ?_)
      · rw [fillT_2, n0]
      · rw [fillT_3, n1, h1, hseq]
      · rw [fillT_4, n2]
      · rw [fillT_5, n3]
      · rw [fillT_6, n4]
      · rw [fillT_2] at e; exact absurd e hx
end
