/-! ===== marks: both sides ===== -/
section
variable {M M' M1 M3 N N' : xM} {D E S T X X' : xT} {C : xC} {R : Nat → Int32} {d fu n m i j o p q a c k l s t w K P L L' b b' B B' f e F g pd vd sd pe ve se c' s' : Nat} {u v x y r z lo hi : Int32} {nt : Bool} {W : Nat → Nat} {V : Nat → Nat → Int32}
theorem nb_1 (q : ¬ bs c s) : c ≠ 1 := fun z => q (by rw [z]; exact bs_c (by omega))
theorem nb_20 (q : ¬ bs c s) : c ≠ 20 ∨ s ≠ 44 ∧ s ≠ 45 ∧ (s < 83 ∨ 86 < s) := by
  by_cases z : c = 20
  · right
    rw [z] at q
    refine ⟨fun w => q (by rw [w]; exact bs_20 (by omega)), fun w => q (by rw [w]; exact bs_20 (by omega)), ?_⟩
    by_cases w : s < 83 ∨ 86 < s
    · exact w
    · exact absurd (bs_20 (by omega)) q
  · exact Or.inl z
theorem nb_22 (q : ¬ bs c s) : c ≠ 22 ∨ s ≠ 6 ∧ (s < 17 ∨ 19 < s) := by
  by_cases z : c = 22
  · right
    rw [z] at q
    refine ⟨fun w => q (by rw [w]; exact bs_22 (by omega)), ?_⟩
    by_cases w : s < 17 ∨ 19 < s
    · exact w
    · exact absurd (bs_22 (by omega)) q
  · exact Or.inl z
theorem clue_ref (h : Lay M) (hm : m < 2) : gR M 1 (1 + m) 1 = some (83 + 2 * m) ∧ gR M 1 (1 + m) 2 = some (84 + 2 * m) ∧ gR M 1 (1 + m) 3 = some (17 + m) ∧ gN M 20 (83 + 2 * m) = 8 ∧ gN M 20 (84 + 2 * m) = 8 ∧ gN M 22 (17 + m) = 8 ∧ gR M 24 0 m = some (3 + m) ∧ gR M 25 0 m = some (1 + m) := by
  rcases (show m = 0 ∨ m = 1 by omega) with rfl | rfl
  · exact ⟨l1_1_1 h, l1_1_2 h, l1_1_3 h, n20_83 h, n20_84 h, n22_17 h, l24_0_0 h, l25_0_0 h⟩
  · exact ⟨l1_2_1 h, l1_2_2 h, l1_2_3 h, n20_85 h, n20_86 h, n22_18 h, l24_0_1 h, l25_0_1 h⟩
theorem t_markSave (h : Lay M) (hm : m < 2) (hf : 1100 < fu) : F_X12_mark fu 0 (i3 m) 0 (mmb X M) = some (1, mmb (mvX (up (up X 0 0 0) 1 m 1) 0 (535 * (1 + m)) 535) M) := by
  have hw : ∀ M1, F_X12_within fu (i3 m) 0 1 M1 = some (1, M1) := fun M1 => wi_t (fun q => (i3_nl (a := m) (by omega)).mp q) (fun q => by have := (i3_lt (a := 1) (by omega) (by omega)).mp q; omega)
  have hx : xin (i3 m) 2 = true := xin_i3 hm (by omega)
  have hmv := t_moves (fu := fu) (M := M) (X := up (up X 0 0 0) 1 m 1) (p := 0) (q := 535 * (1 + m)) (n := 535) h (by omega) (by omega) (by omega) (by omega)
  have e5 : (535 : Int32) * (1 + i3 m) = i3 (535 * (1 + m)) := by rw [i3_ladd, show (535 : Int32) = i3 535 from rfl, ← i3_mul]
  unfold F_X12_mark
  simp only [sI_th]
  rw [hw]
  simp only [Option.bind_some]
  rw [if_neg (by decide), if_pos trivial]
  unfold J_X12_mark_29
  simp (disch := first | assumption | omega) only [l12_0_1, l12_0_4, l12_0_5, l12_0_6, l12_0_9, l12_0_10, l12_0_11, l12_0_13, l12_0_14, l12_0_15, l12_0_16, l12_0_17, l12_0_18, l12_0_19, l12_0_23, l12_0_24, l12_0_25, l12_0_27, n20_83, n20_84, n20_85, n20_86, n20_87, n20_88, n20_89, n20_90, n20_91, n20_92, n20_93, n20_94, n20_95, n20_96, n20_97, n20_98, n21_2, n21_3, n21_4, n21_5, n21_6, n22_20, m_0, m_1, m_87, m_88, m_89, m_90, m_91, m_92, m_93, m_94, m_95, m_96, m_97, m_98, p_0, p_1, p_87, p_88, p_89, p_90, p_91, p_92, p_93, p_94, p_95, p_96, p_97, p_98, gR_mmb, gN_mmb, gL_mmb, i3_add1, i3_add, i3_mul, i3_addl, i3_mull, i3_ladd, i3_lmul, i3_div4, i3_le, i3_lt, i3_eq, i3_lel, i3_lle, i3_ltl, i3_llt, i3_eql, i3_leq, i3_nl, i3_0l, i3_nn, n1_lt, n1_le, xi_i3, xin_i3, xi_lit, xin_lit, xb0, xb1, gd_t, nz4, Option.bind_some, gR_emb, gN_emb, gL_emb, ↓reduceIte, if_true, if_false, not_true_eq_false, not_false_eq_true, eq_self, Nat.not_lt_zero, Nat.zero_le, true_or, or_true, false_or, or_false, true_and, and_true, false_and, and_false]
  unfold J_X12_mark_52
  rw [if_pos rfl, e5, show F_X12_moves fu 0 0 (i3 (535 * (1 + m))) 535 (mmb (up (up X 0 0 0) 1 m 1) M) = _ from hmv]
  simp only [Option.bind_some, xb_t, gd_t]
theorem t_markBack (h : Lay M) (hm : m < 2) (hy : y ≠ 0) (hf : 1100 < fu) : F_X12_mark fu 0 (i3 m) y (mmb X M) = if X 1 m = 0 then some (0, mmb (up X 0 0 0) M) else some (1, mmb (mvX (up (up X 0 0 0) 1 m 1) (535 * (1 + m)) 0 535) M) := by
  have hw : ∀ M1, F_X12_within fu (i3 m) 0 1 M1 = some (1, M1) := fun M1 => wi_t (fun q => (i3_nl (a := m) (by omega)).mp q) (fun q => by have := (i3_lt (a := 1) (by omega) (by omega)).mp q; omega)
  have hx : xin (i3 m) 2 = true := xin_i3 hm (by omega)
  have hmv := t_moves (fu := fu) (M := M) (X := up (up X 0 0 0) 1 m 1) (p := 535 * (1 + m)) (q := 0) (n := 535) h (by omega) (by omega) (by omega) (by omega)
  have e5 : (535 : Int32) * (1 + i3 m) = i3 (535 * (1 + m)) := by rw [i3_ladd, show (535 : Int32) = i3 535 from rfl, ← i3_mul]
  have e1 : up X 0 0 0 1 m = X 1 m := up_ne (by omega)
  unfold F_X12_mark
  simp only [sI_th]
  rw [hw]
  simp only [Option.bind_some]
  rw [if_neg (by decide), if_neg hy]
  simp (disch := first | assumption | omega) only [l12_0_1, l12_0_4, l12_0_5, l12_0_6, l12_0_9, l12_0_10, l12_0_11, l12_0_13, l12_0_14, l12_0_15, l12_0_16, l12_0_17, l12_0_18, l12_0_19, l12_0_23, l12_0_24, l12_0_25, l12_0_27, n20_83, n20_84, n20_85, n20_86, n20_87, n20_88, n20_89, n20_90, n20_91, n20_92, n20_93, n20_94, n20_95, n20_96, n20_97, n20_98, n21_2, n21_3, n21_4, n21_5, n21_6, n22_20, m_0, m_1, m_87, m_88, m_89, m_90, m_91, m_92, m_93, m_94, m_95, m_96, m_97, m_98, p_0, p_1, p_87, p_88, p_89, p_90, p_91, p_92, p_93, p_94, p_95, p_96, p_97, p_98, gR_mmb, gN_mmb, gL_mmb, i3_add1, i3_add, i3_mul, i3_addl, i3_mull, i3_ladd, i3_lmul, i3_div4, i3_le, i3_lt, i3_eq, i3_lel, i3_lle, i3_ltl, i3_llt, i3_eql, i3_leq, i3_nl, i3_0l, i3_nn, n1_lt, n1_le, xi_i3, xin_i3, xi_lit, xin_lit, xb0, xb1, gd_t, nz4, Option.bind_some, gR_emb, gN_emb, gL_emb, ↓reduceIte, if_true, if_false, not_true_eq_false, not_false_eq_true, eq_self, Nat.not_lt_zero, Nat.zero_le, true_or, or_true, false_or, or_false, true_and, and_true, false_and, and_false, e1]
  by_cases c : X 1 m = 0
  · rw [if_neg (fun q => q c), if_pos c]
  · rw [if_pos c, if_neg c]
    unfold J_X12_mark_29
    simp (disch := first | assumption | omega) only [l12_0_1, l12_0_4, l12_0_5, l12_0_6, l12_0_9, l12_0_10, l12_0_11, l12_0_13, l12_0_14, l12_0_15, l12_0_16, l12_0_17, l12_0_18, l12_0_19, l12_0_23, l12_0_24, l12_0_25, l12_0_27, n20_83, n20_84, n20_85, n20_86, n20_87, n20_88, n20_89, n20_90, n20_91, n20_92, n20_93, n20_94, n20_95, n20_96, n20_97, n20_98, n21_2, n21_3, n21_4, n21_5, n21_6, n22_20, m_0, m_1, m_87, m_88, m_89, m_90, m_91, m_92, m_93, m_94, m_95, m_96, m_97, m_98, p_0, p_1, p_87, p_88, p_89, p_90, p_91, p_92, p_93, p_94, p_95, p_96, p_97, p_98, gR_mmb, gN_mmb, gL_mmb, i3_add1, i3_add, i3_mul, i3_addl, i3_mull, i3_ladd, i3_lmul, i3_div4, i3_le, i3_lt, i3_eq, i3_lel, i3_lle, i3_ltl, i3_llt, i3_eql, i3_leq, i3_nl, i3_0l, i3_nn, n1_lt, n1_le, xi_i3, xin_i3, xi_lit, xin_lit, xb0, xb1, gd_t, nz4, Option.bind_some, gR_emb, gN_emb, gL_emb, ↓reduceIte, if_true, if_false, not_true_eq_false, not_false_eq_true, eq_self, Nat.not_lt_zero, Nat.zero_le, true_or, or_true, false_or, or_false, true_and, and_true, false_and, and_false]
    rw [if_neg hy]
    unfold J_X12_mark_52
    rw [if_neg hy, show F_X12_moves fu 0 (i3 (535 * (1 + m))) 0 535 (mmb (up (up X 0 0 0) 1 m 1) M) = _ from hmv]
    simp only [Option.bind_some, xb_t, gd_t]
end
