/-! ===== copies, chain, file: both sides ===== -/
section
variable {M M' : xM} {D E X X' : xT} {C : xC} {R Bv S : Nat → Int32} {d e fu n m i j o p q a k l s w K P L L' b B B' f : Nat} {v x y r : Int32} {W A c : Nat → Nat} {V : Nat → Nat → Int32}
theorem t_isOf (h : Lay M) (hB : CB C) (hR : Rel C 0 D X) (hs : s < tot C) : F_X12_isOf fu 0 (i3 s) x y (mmb X M) = some (bz (isOfB D x y s), mmb X M) := by
  have h36 := tot36 hB
  have g9 := hR.2.2.2.2.2.2.2.2.2 s hs
  rw [Nat.zero_add] at g9
  have k1 : F_X12_typeOf fu 0 0 (i3 s) (mmb X M) = some (D 2 s, mmb X M) := t_typeOf (b := 0) h (by omega) hB hR hs
  have k2 : F_X12_slotAt fu 0 (i3 s) (mmb X M) = some (i3 (34 + 13 * s), mmb X M) := by
    have := t_slotAt (fu := fu) (b := 0) (s := s) (M := mmb X M)
    rw [Nat.zero_add] at this
    exact this
  unfold F_X12_isOf isOfB
  rw [k1]
  simp only [Option.bind_some]
  by_cases c1 : D 2 s = 1
  · rw [if_neg (fun q => q c1), k2, decide_eq_true c1]
    obtain ⟨e1, e2, e3, e4⟩ := g9.2.1 (by rw [c1]; decide)
    simp (disch := first | assumption | omega) only [l12_0_1, l12_0_4, l12_0_5, l12_0_6, l12_0_9, l12_0_10, l12_0_11, l12_0_13, l12_0_14, l12_0_15, l12_0_16, l12_0_17, l12_0_18, l12_0_19, l12_0_23, l12_0_24, l12_0_25, l12_0_27, n20_83, n20_84, n20_85, n20_86, n20_87, n20_88, n20_89, n20_90, n20_91, n20_92, n20_93, n20_94, n20_95, n20_96, n20_97, n20_98, n21_2, n21_3, n21_4, n21_5, n21_6, n22_20, m_0, m_1, m_87, m_88, m_89, m_90, m_91, m_92, m_93, m_94, m_95, m_96, m_97, m_98, p_0, p_1, p_87, p_88, p_89, p_90, p_91, p_92, p_93, p_94, p_95, p_96, p_97, p_98, gR_mmb, gN_mmb, gL_mmb, i3_add1, i3_add, i3_mul, i3_addl, i3_mull, i3_ladd, i3_lmul, i3_div4, i3_le, i3_lt, i3_eq, i3_lel, i3_lle, i3_ltl, i3_llt, i3_eql, i3_leq, i3_nl, i3_0l, i3_nn, n1_lt, n1_le, xi_i3, xin_i3, xi_lit, xin_lit, xb0, xb1, gd_t, nz4, Option.bind_some, gR_emb, gN_emb, gL_emb, ↓reduceIte, if_true, if_false, not_true_eq_false, not_false_eq_true, eq_self, Nat.not_lt_zero, Nat.zero_le, true_or, or_true, false_or, or_false, true_and, and_true, false_and, and_false, e2]
    by_cases c2 : D 4 s = x
    · rw [if_neg (fun q => q c2), k2, decide_eq_true c2]
      simp (disch := first | assumption | omega) only [l12_0_1, l12_0_4, l12_0_5, l12_0_6, l12_0_9, l12_0_10, l12_0_11, l12_0_13, l12_0_14, l12_0_15, l12_0_16, l12_0_17, l12_0_18, l12_0_19, l12_0_23, l12_0_24, l12_0_25, l12_0_27, n20_83, n20_84, n20_85, n20_86, n20_87, n20_88, n20_89, n20_90, n20_91, n20_92, n20_93, n20_94, n20_95, n20_96, n20_97, n20_98, n21_2, n21_3, n21_4, n21_5, n21_6, n22_20, m_0, m_1, m_87, m_88, m_89, m_90, m_91, m_92, m_93, m_94, m_95, m_96, m_97, m_98, p_0, p_1, p_87, p_88, p_89, p_90, p_91, p_92, p_93, p_94, p_95, p_96, p_97, p_98, gR_mmb, gN_mmb, gL_mmb, i3_add1, i3_add, i3_mul, i3_addl, i3_mull, i3_ladd, i3_lmul, i3_div4, i3_le, i3_lt, i3_eq, i3_lel, i3_lle, i3_ltl, i3_llt, i3_eql, i3_leq, i3_nl, i3_0l, i3_nn, n1_lt, n1_le, xi_i3, xin_i3, xi_lit, xin_lit, xb0, xb1, gd_t, nz4, Option.bind_some, gR_emb, gN_emb, gL_emb, ↓reduceIte, if_true, if_false, not_true_eq_false, not_false_eq_true, eq_self, Nat.not_lt_zero, Nat.zero_le, true_or, or_true, false_or, or_false, true_and, and_true, false_and, and_false, e3]
      by_cases c3 : D 5 s = y
      · rw [if_neg (fun q => q c3), decide_eq_true c3]; rfl
      · rw [if_pos c3, decide_eq_false c3]; rfl
    · rw [if_pos c2, decide_eq_false c2]; rfl
  · rw [if_pos c1, decide_eq_false c1, Bool.false_and, xb_f, gd_t]; rfl
theorem t_copies (h : Lay M) (hM : MCfg C X) (hB : CB C) (hR : Rel C 0 D X) (hf : 1100 < fu) : L_X12_copies_21 fu fu 0 x y 0 0 (mmb X M) = some (i3 (cnt (isOfB D x y) (tot C)), mmb X M) := by
  have h36 := tot36 hB
  refine lpc (fun l i z => L_X12_copies_21 fu l 0 x y z (i3 i) (mmb X M)) (fun i => i3 (cnt (isOfB D x y) i)) (tot C) _ ?_ ?_ fu 0 (by omega) (by omega)
  · intro l i hi
    show L_X12_copies_21 fu (l + 1) 0 x y (i3 (cnt (isOfB D x y) i)) (i3 i) (mmb X M) = L_X12_copies_21 fu l 0 x y (i3 (cnt (isOfB D x y) (i + 1))) (i3 (i + 1)) (mmb X M)
    rw [cnt_s]
    conv => lhs; unfold L_X12_copies_21
    rw [t_all h hM]
    simp only [Option.bind_some]
    rw [if_neg (fun q => by have := (i3_le (by omega) (by omega)).mp q; omega), t_isOf h hB hR hi]
    simp only [Option.bind_some, bz_0, i3_add1]
    cases isOfB D x y i with
    | false => rw [if_pos rfl, if_neg (by decide), Int32.add_zero]
    | true => rw [if_neg (by decide), if_pos rfl]
  · intro l
    show L_X12_copies_21 fu (l + 1) 0 x y (i3 (cnt (isOfB D x y) (tot C))) (i3 (tot C)) (mmb X M) = _
    conv => lhs; unfold L_X12_copies_21
    rw [t_all h hM]
    simp only [Option.bind_some]
    rw [if_pos (Int32.le_refl _)]
theorem t_chain (h : Lay M) (hM : MCfg C X) (hB : CB C) (hR : Rel C 0 D X) (hN : InN C D) (hf : 1100 < fu) : L_X12_chain_21 fu fu 0 x y 0 0 (mmb X M) = some (i3 (cnt (fun s => isOfB D x y s && isLeastT D s) (tot C)), mmb X M) := by
  have h36 := tot36 hB
  refine lpc (fun l i z => L_X12_chain_21 fu l 0 x y z (i3 i) (mmb X M)) (fun i => i3 (cnt (fun s => isOfB D x y s && isLeastT D s) i)) (tot C) _ ?_ ?_ fu 0 (by omega) (by omega)
  · intro l i hi
    show L_X12_chain_21 fu (l + 1) 0 x y (i3 (cnt (fun s => isOfB D x y s && isLeastT D s) i)) (i3 i) (mmb X M) = L_X12_chain_21 fu l 0 x y (i3 (cnt (fun s => isOfB D x y s && isLeastT D s) (i + 1))) (i3 (i + 1)) (mmb X M)
    rw [cnt_s]
    conv => lhs; unfold L_X12_chain_21
    rw [t_all h hM]
    simp only [Option.bind_some]
    rw [if_neg (fun q => by have := (i3_le (by omega) (by omega)).mp q; omega), t_isOf h hB hR hi]
    simp only [Option.bind_some, bz_0, i3_add1]
    cases e : isOfB D x y i with
    | false => rw [if_pos rfl, Bool.false_and, if_neg (by decide), Int32.add_zero]
    | true =>
      have hk : D 2 i = 1 := by
        unfold isOfB at e
        simp only [Bool.and_eq_true, decide_eq_true_eq] at e
        exact e.1
      have k1 : F_X12_isFirst fu 0 0 (i3 i) (mmb X M) = some (bz (isLeastT D i), mmb X M) := t_isFirst (b := 0) h (by omega) hB hR hN (by omega) hi (Or.inl hk)
      rw [if_neg (by decide), k1, Bool.true_and]
      simp only [Option.bind_some, bz_0]
      cases isLeastT D i with
      | false => rw [if_pos rfl, if_neg (by decide), Int32.add_zero]
      | true => rw [if_neg (by decide), if_pos rfl]
  · intro l
    show L_X12_chain_21 fu (l + 1) 0 x y (i3 (cnt (fun s => isOfB D x y s && isLeastT D s) (tot C))) (i3 (tot C)) (mmb X M) = _
    conv => lhs; unfold L_X12_chain_21
    rw [t_all h hM]
    simp only [Option.bind_some]
    rw [if_pos (Int32.le_refl _)]
theorem data_0 : dataT D x y 0 = isOfB D x y := by
  funext s
  unfold dataT isOfB
  simp
theorem data_1 : dataT D x y 1 = fun s => isOfB D x y s && isLeastT D s := by
  funext s
  unfold dataT isOfB
  rw [show decide ((1 : Int32) = 0) = false by decide, Bool.false_or]
  cases decide (D 2 s = 1) <;> cases decide (D 4 s = x) <;> cases decide (D 5 s = y) <;> rfl
theorem op_copies (hS : SimP C R a w n W V B M) (hf : 1100 < fu) : Both C R a w n W V B (F_X11_copies fu 0 x y) (F_X12_copies fu 0 x y) M := by
  obtain ⟨s1, s2, s3, s4, s5, s6, ⟨L, l1, l2, l3, l4, l5, l6⟩, s8, s9, s10, s11, s12, s13, s14, s15⟩ := id hS
  have h := s1.1
  have ep := e_isPage (fu := fu) (x := x) (y := y) h s1.2.1 s3
  have ew := e_countData (fu := fu) (M := M) (D := tb 0 M) (d := 0) (nb := C 0 0) (nw := C 0 1) (f := x) (p := y) (o := 0) h (by omega) l2.1 (by omega)
  rw [emb_tb, data_0] at ew
  refine op_same (r := if isPageB C x y then i3 (cnt (isOfB (tb 0 M) x y) (tot C)) else -1) hS ?_ (fun M1 h1 => ⟨_, ?_, FmS_0 (v := 0) s8⟩)
  · unfold F_X11_copies
    rw [s1.2.2.2.1]
    simp only [Option.bind_some]
    rw [ep]
    simp only [Option.bind_some, bz_0]
    cases isPageB C x y with
    | false => rfl
    | true =>
      rw [if_neg (by decide), l11_0_6 h]
      simp only [Option.bind_some]
      rw [l2_0 h (by omega)]
      simp only [Option.bind_some]
      rw [ew]
      rfl
  · unfold F_X12_copies
    simp only [sI_th]
    rw [t_isPage h1 (up0_M s4) s2]
    simp only [Option.bind_some, bz_0]
    cases isPageB C x y with
    | false => rfl
    | true =>
      rw [if_pos (by decide), t_copies h1 (up0_M s4) s2 (up0_Rel l4) hf]
      rfl
theorem op_chain (hS : SimP C R a w n W V B M) (hf : 1100 < fu) : Both C R a w n W V B (F_X11_chain fu 0 x y) (F_X12_chain fu 0 x y) M := by
  obtain ⟨s1, s2, s3, s4, s5, s6, ⟨L, l1, l2, l3, l4, l5, l6⟩, s8, s9, s10, s11, s12, s13, s14, s15⟩ := id hS
  have h := s1.1
  have ep := e_isPage (fu := fu) (x := x) (y := y) h s1.2.1 s3
  have ew := e_countData (fu := fu) (M := M) (D := tb 0 M) (d := 0) (nb := C 0 0) (nw := C 0 1) (f := x) (p := y) (o := 1) h (by omega) l2.1 (by omega)
  rw [emb_tb, data_1] at ew
  refine op_same (r := if isPageB C x y then i3 (cnt (fun s => isOfB (tb 0 M) x y s && isLeastT (tb 0 M) s) (tot C)) else -1) hS ?_ (fun M1 h1 => ⟨_, ?_, FmS_0 (v := 0) s8⟩)
  · unfold F_X11_chain
    rw [s1.2.2.2.1]
    simp only [Option.bind_some]
    rw [ep]
    simp only [Option.bind_some, bz_0]
    cases isPageB C x y with
    | false => rfl
    | true =>
      rw [if_neg (by decide), l11_0_6 h]
      simp only [Option.bind_some]
      rw [l2_0 h (by omega)]
      simp only [Option.bind_some]
      rw [ew]
      rfl
  · unfold F_X12_chain
    simp only [sI_th]
    rw [t_isPage h1 (up0_M s4) s2]
    simp only [Option.bind_some, bz_0]
    cases isPageB C x y with
    | false => rfl
    | true =>
      rw [if_pos (by decide), t_chain h1 (up0_M s4) s2 (up0_Rel l4) l2.2.2.1 hf]
      rfl
/-! a page of a file -/
theorem e_valueOf (h : Lay M) (hO : Ok (C 0 0) (C 0 1) D) (hk : k < 20) (hf : 1100 < fu) : F_X2_valueOf fu 0 (i3 k) (emb 0 D M) = some (saysT C D k, emb 0 D M) := by
  have h36 := mul36 hO.1 hO.2.1
  have o5 := hO.2.2.2.2.1
  unfold F_X2_valueOf saysT
  simp (disch := first | assumption | omega) only [l0_7, l0_8, l0_9, l0_10, l0_11, l0_12, l0_13, l0_14, l0_15, l2_0, l2_5, l2_6, l2_7, l2_8, l2_9, l2_12, l2_13, l7_4, l7_5, l7_6, l7_7, l8_0, l8_1, l8_2, l9_1, l9_2, l9_3, l9_4, l4_0_0, l4_0_1, l4_0_2, l4_0_3, l3_0_2, l3_0_3, l3_0_4, l3_0_5, l10_0_0, l1_0_1, l1_0_2, l1_0_3, l1_1_1, l1_1_2, l1_1_3, l1_2_1, l1_2_2, l1_2_3, l5_0_0, l5_0_2, l5_0_3, l5_0_4, l11_0_0, l11_0_5, l11_0_6, l11_0_7, l11_0_8, l11_0_9, l11_0_10, l11_0_11, l11_0_12, l11_0_13, l24_0_0, l24_0_1, l25_0_0, l25_0_1, l12_0_1, l12_0_4, l12_0_5, l12_0_6, l12_0_9, l12_0_10, l12_0_11, l12_0_13, l12_0_14, l12_0_15, l12_0_16, l12_0_17, l12_0_18, l12_0_19, l12_0_23, l12_0_24, l12_0_25, l12_0_27, n_a0, n_a1, n_a2, n_a3, n_a4, n_a5, n_a6, n_a7, n_a8, n_a9, n_a10, n_b0, n_b1, n_b2, n_p0, n_p1, n_p2, n_p3, n_p4, n_s0, n_s1, n_s2, n_s3, n_nm, n20_18, n20_19, n20_20, n20_21, n20_44, n20_45, n20_46, n20_47, n20_48, n20_49, n20_83, n20_84, n20_85, n20_86, n20_87, n20_88, n20_89, n20_90, n20_91, n20_92, n20_93, n20_94, n20_95, n20_96, n20_97, n20_98, n21_2, n21_3, n21_4, n21_5, n21_6, n22_6, n22_7, n22_17, n22_18, n22_19, n22_20, n23_0, n24_0, n25_0, r_a0, w_a0, r_a1, w_a1, r_a2, w_a2, r_a3, w_a3, r_a4, w_a4, r_a5, w_a5, r_a6, w_a6, r_a7, w_a7, r_a8, w_a8, r_a9, w_a9, r_a10, w_a10, r_b0, w_b0, r_b1, w_b1, r_b2, w_b2, r_d, w_d, r_c, w_c, r_e, w_e, r_t, w_t, r_f0, w_f0, r_f1, w_f1, r_f2, w_f2, r_f3, w_f3, r_e0, w_e0, r_e1, w_e1, r_e2, w_e2, r_o7, r_o8, r_o9, r_o10, r_o1, r_o5, r_o6, r_o11, r_o12, r_o21, r_o23, r_p0, r_p1, r_p2, r_s0, r_s1, r_s2, r_s3, i3_add1, i3_add, i3_mul, i3_addl, i3_mull, i3_ladd, i3_lmul, i3_div4, i3_le, i3_lt, i3_eq, i3_lel, i3_lle, i3_ltl, i3_llt, i3_eql, i3_leq, i3_nl, i3_0l, i3_nn, n1_lt, n1_le, xi_i3, xin_i3, xi_lit, xin_lit, xb0, xb1, gd_t, nz4, Option.bind_some, gR_emb, gN_emb, gL_emb, ↓reduceIte, if_true, if_false, not_true_eq_false, not_false_eq_true, eq_self, Nat.not_lt_zero, Nat.zero_le, true_or, or_true, false_or, or_false, true_and, and_true, false_and, and_false]
  by_cases c0 : D 9 k = 0
  · rw [if_neg (fun q => q c0), if_pos c0]
  · rw [if_pos c0, if_neg c0]
    have key := lpx (fun l i => L_X2_valueOf_13 fu l 0 (i3 k) (i3 i) (emb 0 D M)) (fun s => decide (D 2 s = 1) && decide (D 3 s = D 9 k)) (tot C) (some (-1, emb 0 D M)) (fun s => some (D 6 s, emb 0 D M)) ?_ ?_ ?_ fu (by have : tot C = C 0 0 * C 0 1 := rfl; omega)
    · refine Eq.trans key ?_
      cases lst (fun s => decide (D 2 s = 1) && decide (D 3 s = D 9 k)) (tot C) <;> rfl
    · intro l i hi hp
      have hi' : i < C 0 0 * C 0 1 := hi
      show L_X2_valueOf_13 fu (l + 1) 0 (i3 k) (i3 i) (emb 0 D M) = L_X2_valueOf_13 fu l 0 (i3 k) (i3 (i + 1)) (emb 0 D M)
      conv => lhs; unfold L_X2_valueOf_13
      simp (disch := first | assumption | omega) only [l0_7, l0_8, l0_9, l0_10, l0_11, l0_12, l0_13, l0_14, l0_15, l2_0, l2_5, l2_6, l2_7, l2_8, l2_9, l2_12, l2_13, l7_4, l7_5, l7_6, l7_7, l8_0, l8_1, l8_2, l9_1, l9_2, l9_3, l9_4, l4_0_0, l4_0_1, l4_0_2, l4_0_3, l3_0_2, l3_0_3, l3_0_4, l3_0_5, l10_0_0, l1_0_1, l1_0_2, l1_0_3, l1_1_1, l1_1_2, l1_1_3, l1_2_1, l1_2_2, l1_2_3, l5_0_0, l5_0_2, l5_0_3, l5_0_4, l11_0_0, l11_0_5, l11_0_6, l11_0_7, l11_0_8, l11_0_9, l11_0_10, l11_0_11, l11_0_12, l11_0_13, l24_0_0, l24_0_1, l25_0_0, l25_0_1, l12_0_1, l12_0_4, l12_0_5, l12_0_6, l12_0_9, l12_0_10, l12_0_11, l12_0_13, l12_0_14, l12_0_15, l12_0_16, l12_0_17, l12_0_18, l12_0_19, l12_0_23, l12_0_24, l12_0_25, l12_0_27, n_a0, n_a1, n_a2, n_a3, n_a4, n_a5, n_a6, n_a7, n_a8, n_a9, n_a10, n_b0, n_b1, n_b2, n_p0, n_p1, n_p2, n_p3, n_p4, n_s0, n_s1, n_s2, n_s3, n_nm, n20_18, n20_19, n20_20, n20_21, n20_44, n20_45, n20_46, n20_47, n20_48, n20_49, n20_83, n20_84, n20_85, n20_86, n20_87, n20_88, n20_89, n20_90, n20_91, n20_92, n20_93, n20_94, n20_95, n20_96, n20_97, n20_98, n21_2, n21_3, n21_4, n21_5, n21_6, n22_6, n22_7, n22_17, n22_18, n22_19, n22_20, n23_0, n24_0, n25_0, r_a0, w_a0, r_a1, w_a1, r_a2, w_a2, r_a3, w_a3, r_a4, w_a4, r_a5, w_a5, r_a6, w_a6, r_a7, w_a7, r_a8, w_a8, r_a9, w_a9, r_a10, w_a10, r_b0, w_b0, r_b1, w_b1, r_b2, w_b2, r_d, w_d, r_c, w_c, r_e, w_e, r_t, w_t, r_f0, w_f0, r_f1, w_f1, r_f2, w_f2, r_f3, w_f3, r_e0, w_e0, r_e1, w_e1, r_e2, w_e2, r_o7, r_o8, r_o9, r_o10, r_o1, r_o5, r_o6, r_o11, r_o12, r_o21, r_o23, r_p0, r_p1, r_p2, r_s0, r_s1, r_s2, r_s3, i3_add1, i3_add, i3_mul, i3_addl, i3_mull, i3_ladd, i3_lmul, i3_div4, i3_le, i3_lt, i3_eq, i3_lel, i3_lle, i3_ltl, i3_llt, i3_eql, i3_leq, i3_nl, i3_0l, i3_nn, n1_lt, n1_le, xi_i3, xin_i3, xi_lit, xin_lit, xb0, xb1, gd_t, nz4, Option.bind_some, gR_emb, gN_emb, gL_emb, ↓reduceIte, if_true, if_false, not_true_eq_false, not_false_eq_true, eq_self, Nat.not_lt_zero, Nat.zero_le, true_or, or_true, false_or, or_false, true_and, and_true, false_and, and_false, o5]
      rw [if_neg (by omega)]
      by_cases c1 : D 2 i = 1
      · rw [if_neg (fun q => q c1)]
        by_cases c2 : D 3 i = D 9 k
        · simp [c1, c2] at hp
        · rw [if_pos c2]
      · rw [if_pos c1]
    · intro l i hi hp
      have hi' : i < C 0 0 * C 0 1 := hi
      simp only [Bool.and_eq_true, decide_eq_true_eq] at hp
      show L_X2_valueOf_13 fu (l + 1) 0 (i3 k) (i3 i) (emb 0 D M) = _
      conv => lhs; unfold L_X2_valueOf_13
      simp (disch := first | assumption | omega) only [l0_7, l0_8, l0_9, l0_10, l0_11, l0_12, l0_13, l0_14, l0_15, l2_0, l2_5, l2_6, l2_7, l2_8, l2_9, l2_12, l2_13, l7_4, l7_5, l7_6, l7_7, l8_0, l8_1, l8_2, l9_1, l9_2, l9_3, l9_4, l4_0_0, l4_0_1, l4_0_2, l4_0_3, l3_0_2, l3_0_3, l3_0_4, l3_0_5, l10_0_0, l1_0_1, l1_0_2, l1_0_3, l1_1_1, l1_1_2, l1_1_3, l1_2_1, l1_2_2, l1_2_3, l5_0_0, l5_0_2, l5_0_3, l5_0_4, l11_0_0, l11_0_5, l11_0_6, l11_0_7, l11_0_8, l11_0_9, l11_0_10, l11_0_11, l11_0_12, l11_0_13, l24_0_0, l24_0_1, l25_0_0, l25_0_1, l12_0_1, l12_0_4, l12_0_5, l12_0_6, l12_0_9, l12_0_10, l12_0_11, l12_0_13, l12_0_14, l12_0_15, l12_0_16, l12_0_17, l12_0_18, l12_0_19, l12_0_23, l12_0_24, l12_0_25, l12_0_27, n_a0, n_a1, n_a2, n_a3, n_a4, n_a5, n_a6, n_a7, n_a8, n_a9, n_a10, n_b0, n_b1, n_b2, n_p0, n_p1, n_p2, n_p3, n_p4, n_s0, n_s1, n_s2, n_s3, n_nm, n20_18, n20_19, n20_20, n20_21, n20_44, n20_45, n20_46, n20_47, n20_48, n20_49, n20_83, n20_84, n20_85, n20_86, n20_87, n20_88, n20_89, n20_90, n20_91, n20_92, n20_93, n20_94, n20_95, n20_96, n20_97, n20_98, n21_2, n21_3, n21_4, n21_5, n21_6, n22_6, n22_7, n22_17, n22_18, n22_19, n22_20, n23_0, n24_0, n25_0, r_a0, w_a0, r_a1, w_a1, r_a2, w_a2, r_a3, w_a3, r_a4, w_a4, r_a5, w_a5, r_a6, w_a6, r_a7, w_a7, r_a8, w_a8, r_a9, w_a9, r_a10, w_a10, r_b0, w_b0, r_b1, w_b1, r_b2, w_b2, r_d, w_d, r_c, w_c, r_e, w_e, r_t, w_t, r_f0, w_f0, r_f1, w_f1, r_f2, w_f2, r_f3, w_f3, r_e0, w_e0, r_e1, w_e1, r_e2, w_e2, r_o7, r_o8, r_o9, r_o10, r_o1, r_o5, r_o6, r_o11, r_o12, r_o21, r_o23, r_p0, r_p1, r_p2, r_s0, r_s1, r_s2, r_s3, i3_add1, i3_add, i3_mul, i3_addl, i3_mull, i3_ladd, i3_lmul, i3_div4, i3_le, i3_lt, i3_eq, i3_lel, i3_lle, i3_ltl, i3_llt, i3_eql, i3_leq, i3_nl, i3_0l, i3_nn, n1_lt, n1_le, xi_i3, xin_i3, xi_lit, xin_lit, xb0, xb1, gd_t, nz4, Option.bind_some, gR_emb, gN_emb, gL_emb, ↓reduceIte, if_true, if_false, not_true_eq_false, not_false_eq_true, eq_self, Nat.not_lt_zero, Nat.zero_le, true_or, or_true, false_or, or_false, true_and, and_true, false_and, and_false, o5]
      rw [if_neg (by omega), if_neg (fun q => q hp.1), if_neg (fun q => q hp.2)]
    · intro l
      show L_X2_valueOf_13 fu (l + 1) 0 (i3 k) (i3 (C 0 0 * C 0 1)) (emb 0 D M) = _
      conv => lhs; unfold L_X2_valueOf_13
      simp (disch := first | assumption | omega) only [l0_7, l0_8, l0_9, l0_10, l0_11, l0_12, l0_13, l0_14, l0_15, l2_0, l2_5, l2_6, l2_7, l2_8, l2_9, l2_12, l2_13, l7_4, l7_5, l7_6, l7_7, l8_0, l8_1, l8_2, l9_1, l9_2, l9_3, l9_4, l4_0_0, l4_0_1, l4_0_2, l4_0_3, l3_0_2, l3_0_3, l3_0_4, l3_0_5, l10_0_0, l1_0_1, l1_0_2, l1_0_3, l1_1_1, l1_1_2, l1_1_3, l1_2_1, l1_2_2, l1_2_3, l5_0_0, l5_0_2, l5_0_3, l5_0_4, l11_0_0, l11_0_5, l11_0_6, l11_0_7, l11_0_8, l11_0_9, l11_0_10, l11_0_11, l11_0_12, l11_0_13, l24_0_0, l24_0_1, l25_0_0, l25_0_1, l12_0_1, l12_0_4, l12_0_5, l12_0_6, l12_0_9, l12_0_10, l12_0_11, l12_0_13, l12_0_14, l12_0_15, l12_0_16, l12_0_17, l12_0_18, l12_0_19, l12_0_23, l12_0_24, l12_0_25, l12_0_27, n_a0, n_a1, n_a2, n_a3, n_a4, n_a5, n_a6, n_a7, n_a8, n_a9, n_a10, n_b0, n_b1, n_b2, n_p0, n_p1, n_p2, n_p3, n_p4, n_s0, n_s1, n_s2, n_s3, n_nm, n20_18, n20_19, n20_20, n20_21, n20_44, n20_45, n20_46, n20_47, n20_48, n20_49, n20_83, n20_84, n20_85, n20_86, n20_87, n20_88, n20_89, n20_90, n20_91, n20_92, n20_93, n20_94, n20_95, n20_96, n20_97, n20_98, n21_2, n21_3, n21_4, n21_5, n21_6, n22_6, n22_7, n22_17, n22_18, n22_19, n22_20, n23_0, n24_0, n25_0, r_a0, w_a0, r_a1, w_a1, r_a2, w_a2, r_a3, w_a3, r_a4, w_a4, r_a5, w_a5, r_a6, w_a6, r_a7, w_a7, r_a8, w_a8, r_a9, w_a9, r_a10, w_a10, r_b0, w_b0, r_b1, w_b1, r_b2, w_b2, r_d, w_d, r_c, w_c, r_e, w_e, r_t, w_t, r_f0, w_f0, r_f1, w_f1, r_f2, w_f2, r_f3, w_f3, r_e0, w_e0, r_e1, w_e1, r_e2, w_e2, r_o7, r_o8, r_o9, r_o10, r_o1, r_o5, r_o6, r_o11, r_o12, r_o21, r_o23, r_p0, r_p1, r_p2, r_s0, r_s1, r_s2, r_s3, i3_add1, i3_add, i3_mul, i3_addl, i3_mull, i3_ladd, i3_lmul, i3_div4, i3_le, i3_lt, i3_eq, i3_lel, i3_lle, i3_ltl, i3_llt, i3_eql, i3_leq, i3_nl, i3_0l, i3_nn, n1_lt, n1_le, xi_i3, xin_i3, xi_lit, xin_lit, xb0, xb1, gd_t, nz4, Option.bind_some, gR_emb, gN_emb, gL_emb, ↓reduceIte, if_true, if_false, not_true_eq_false, not_false_eq_true, eq_self, Nat.not_lt_zero, Nat.zero_le, true_or, or_true, false_or, or_false, true_and, and_true, false_and, and_false, o5]
      rw [if_pos (Nat.le_refl _)]
theorem op_says (hS : SimP C R a w n W V B M) (hf : 1100 < fu) : Both C R a w n W V B (F_X11_says fu 0 x y) (F_X12_says fu 0 x y) M := by
  obtain ⟨s1, s2, s3, s4, s5, s6, ⟨L, l1, l2, l3, l4, l5, l6⟩, s8, s9, s10, s11, s12, s13, s14, s15⟩ := id hS
  have h := s1.1
  have ep := e_isPage (fu := fu) (x := x) (y := y) h s1.2.1 s3
  cases hpg : isPageB C x y with
  | false =>
    refine op_same (r := -1) hS ?_ (fun M1 h1 => ⟨_, ?_, FmS_0 (v := 0) s8⟩)
    · unfold F_X11_says
      rw [s1.2.2.2.1]
      simp only [Option.bind_some]
      rw [ep, hpg]
      rfl
    · unfold F_X12_says
      simp only [sI_th]
      rw [t_isPage h1 (up0_M s4) s2, hpg]
      rfl
  | true =>
    obtain ⟨f, p, hf', hp, rfl, rfl⟩ := isPage_ex hpg s2.2.2.2.1 (fun f hf => (s2.2.2.2.2.2 f hf).2.2)
    have c5 := s2.2.2.2.1
    have c4 := (s2.2.2.2.2.2 f hf').2.2
    have ev := e_valueOf (fu := fu) (M := M) (D := tb 0 M) (C := C) (k := f * 4 + p) h l2.1 (by omega) hf
    rw [emb_tb] at ev
    refine op_same (r := saysT C (tb 0 M) (f * 4 + p)) hS ?_ (fun M1 h1 => ⟨_, ?_, FmS_0 (v := 0) s8⟩)
    · unfold F_X11_says
      rw [s1.2.2.2.1]
      simp only [Option.bind_some]
      rw [ep, hpg]
      simp only [Option.bind_some, bz_0]
      rw [if_neg (by decide), l11_0_6 h]
      simp only [Option.bind_some]
      rw [show i3 f * 4 + i3 p = i3 (f * 4 + p) by rw [show (4 : Int32) = i3 4 from rfl, i3_mul, i3_add], ev]
      rfl
    · unfold F_X12_says
      simp only [sI_th]
      rw [t_isPage h1 (up0_M s4) s2, hpg]
      simp only [Option.bind_some, bz_0]
      have k1 : F_X12_saysOf fu 0 0 (i3 f) (i3 p) (mmb (up (tX M) 0 0 0) M1) = some (saysT C (tb 0 M) (f * 4 + p), mmb (up (tX M) 0 0 0) M1) := t_saysOf (b := 0) h1 (up0_M s4) (by omega) s2 (up0_Rel l4) l2.2.2.2.2.1 (by omega) (by omega) (by omega)
      rw [if_neg (by decide), k1]
      rfl
end
