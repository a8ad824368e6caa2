section
variable {M : xM} {D E X Y Z T P X' E' E'' X'' : xT} {C : xC} {R N : Nat → Int32} {fu b d L L' s o t k n m i j p q f l w nb nw a at' : Nat} {x y z v u c : Int32} {nt : Bool}
theorem t_tally0 (h : Lay M) (hb : b ≤ 2140) (hB : CB C) (hI : Inv C L D) (hS : Sg C R b D X Y) (hf : 100 < fu) (hw : w < 3) :
    F_X12_tally fu 0 (i3 b) 0 (i3 (tot C)) (i3 w) (mmb Y M) = some (i3 (cnt (tlB D w) (tot C)), mmb (lkX Y b (i3 (fsN D), i3 (wpN D))) M) := by
  have := t_tally (f := 0) (m := tot C) (w := w) h hS.2.1 hb hB hS.1 hI.2.1 hI.2.2.1 hI.2.2.2.1 hI.2.2.2.2.2.1 hS.2.2.2.1 hf (by omega) hw
  simp only [Nat.zero_add] at this
  exact this
theorem t_cutFirst (h : Lay M) (hM : MCfg C X) (hb : b ≤ 2140) (hB : CB C) (hU : RuleAs C R X) (hR : Rel C b D X) (hI : Inv C L D) (hV : InV C D) (hL : X 0 22 = i3 b → Lk D X) (hf : 1100 < fu) (nt : Bool) :
    ∃ X', F_X12_cutFirst fu 0 (i3 b) (mmb X M) = some (bz (firstT2 C R a nt D).1, mmb X' M) ∧ Rel C b (firstT2 C R a nt D).2 X' ∧ MCfg C X' ∧ RuleAs C R X' ∧ Fm b X X' ∧ (X' 0 22 = i3 b → Lk (firstT2 C R a nt D).2 X') ∧ Pc nt b D (firstT2 C R a nt D).2 X X' := by
  have c4 := hB.2.2.2.2.1
  unfold F_X12_cutFirst
  by_cases h4 : C 0 4 = 0
  · have hx : X 90 4 < 0 := by
      rcases hU with ⟨-, q⟩ | ⟨q, -⟩
      · exact q
      · omega
    have hx2 : ¬ 0 ≤ X 90 4 := Int32.not_le.mpr hx
    have hfi : firstT2 C R a nt D = (false, D) := by
      have : wantsT C R a D = (false, D) := by unfold wantsT; rw [if_pos h4]
      unfold firstT2
      rw [this]; rfl
    rw [hfi]
    refine ⟨X, ?_, hR, hM, hU, Fm_rf, hL, Pc_rf rfl rfl⟩
    simp (disch := first | assumption | omega) only [l12_0_1, l12_0_4, l12_0_5, l12_0_6, l12_0_9, l12_0_10, l12_0_11, l12_0_13, l12_0_14, l12_0_15, l12_0_16, l12_0_17, l12_0_18, l12_0_19, l12_0_23, l12_0_24, l12_0_25, l12_0_27, n20_83, n20_84, n20_85, n20_86, n20_87, n20_88, n20_89, n20_90, n20_91, n20_92, n20_93, n20_94, n20_95, n20_96, n20_97, n20_98, n21_2, n21_3, n21_4, n21_5, n21_6, n22_20, m_0, m_1, m_87, m_88, m_89, m_90, m_91, m_92, m_93, m_94, m_95, m_96, m_97, m_98, p_0, p_1, p_87, p_88, p_89, p_90, p_91, p_92, p_93, p_94, p_95, p_96, p_97, p_98, gR_mmb, gN_mmb, gL_mmb, i3_add1, i3_add, i3_mul, i3_addl, i3_mull, i3_ladd, i3_lmul, i3_div4, i3_le, i3_lt, i3_eq, i3_lel, i3_lle, i3_ltl, i3_llt, i3_eql, i3_leq, i3_nl, i3_0l, i3_nn, n1_lt, n1_le, xi_i3, xin_i3, xi_lit, xin_lit, xb0, xb1, gd_t, nz4, Option.bind_some, gR_emb, gN_emb, gL_emb, ↓reduceIte, if_true, if_false, not_true_eq_false, not_false_eq_true, eq_self, Nat.not_lt_zero, Nat.zero_le, true_or, or_true, false_or, or_false, true_and, and_true, false_and, and_false]
    rw [if_neg hx2]
    rfl
  · have hx : 0 ≤ X 90 4 := by
      rcases hU with ⟨q, -⟩ | ⟨-, p, hp, q, -⟩
      · exact absurd q h4
      · rw [q]; exact (i3_le (a := 0) (by omega) (by omega)).mpr (Nat.zero_le _)
    have S0 := Sg_rf hR hM hU hL
    simp (disch := first | assumption | omega) only [l12_0_1, l12_0_4, l12_0_5, l12_0_6, l12_0_9, l12_0_10, l12_0_11, l12_0_13, l12_0_14, l12_0_15, l12_0_16, l12_0_17, l12_0_18, l12_0_19, l12_0_23, l12_0_24, l12_0_25, l12_0_27, n20_83, n20_84, n20_85, n20_86, n20_87, n20_88, n20_89, n20_90, n20_91, n20_92, n20_93, n20_94, n20_95, n20_96, n20_97, n20_98, n21_2, n21_3, n21_4, n21_5, n21_6, n22_20, m_0, m_1, m_87, m_88, m_89, m_90, m_91, m_92, m_93, m_94, m_95, m_96, m_97, m_98, p_0, p_1, p_87, p_88, p_89, p_90, p_91, p_92, p_93, p_94, p_95, p_96, p_97, p_98, gR_mmb, gN_mmb, gL_mmb, i3_add1, i3_add, i3_mul, i3_addl, i3_mull, i3_ladd, i3_lmul, i3_div4, i3_le, i3_lt, i3_eq, i3_lel, i3_lle, i3_ltl, i3_llt, i3_eql, i3_leq, i3_nl, i3_0l, i3_nn, n1_lt, n1_le, xi_i3, xin_i3, xi_lit, xin_lit, xb0, xb1, gd_t, nz4, Option.bind_some, gR_emb, gN_emb, gL_emb, ↓reduceIte, if_true, if_false, not_true_eq_false, not_false_eq_true, eq_self, Nat.not_lt_zero, Nat.zero_le, true_or, or_true, false_or, or_false, true_and, and_true, false_and, and_false]
    rw [if_pos hx, t_erased h hM hb hB hR hI.2.2.2.2.2.2.2 (by omega)]
    simp (disch := first | assumption | omega) only [l12_0_1, l12_0_4, l12_0_5, l12_0_6, l12_0_9, l12_0_10, l12_0_11, l12_0_13, l12_0_14, l12_0_15, l12_0_16, l12_0_17, l12_0_18, l12_0_19, l12_0_23, l12_0_24, l12_0_25, l12_0_27, n20_83, n20_84, n20_85, n20_86, n20_87, n20_88, n20_89, n20_90, n20_91, n20_92, n20_93, n20_94, n20_95, n20_96, n20_97, n20_98, n21_2, n21_3, n21_4, n21_5, n21_6, n22_20, m_0, m_1, m_87, m_88, m_89, m_90, m_91, m_92, m_93, m_94, m_95, m_96, m_97, m_98, p_0, p_1, p_87, p_88, p_89, p_90, p_91, p_92, p_93, p_94, p_95, p_96, p_97, p_98, gR_mmb, gN_mmb, gL_mmb, i3_add1, i3_add, i3_mul, i3_addl, i3_mull, i3_ladd, i3_lmul, i3_div4, i3_le, i3_lt, i3_eq, i3_lel, i3_lle, i3_ltl, i3_llt, i3_eql, i3_leq, i3_nl, i3_0l, i3_nn, n1_lt, n1_le, xi_i3, xin_i3, xi_lit, xin_lit, xb0, xb1, gd_t, nz4, Option.bind_some, gR_emb, gN_emb, gL_emb, ↓reduceIte, if_true, if_false, not_true_eq_false, not_false_eq_true, eq_self, Nat.not_lt_zero, Nat.zero_le, true_or, or_true, false_or, or_false, true_and, and_true, false_and, and_false]
    have S1 : Sg C R b D X (up X 93 0 (D 15 3)) := Sg_o S0 (fun j k h1 h2 => up_ne (by omega))
    have f10 : up X 93 0 (D 15 3) 93 0 = D 15 3 := up_eq
    generalize up X 93 0 (D 15 3) = X1 at S1 f10
    rw [t_all h S1.2.1]
    simp (disch := first | assumption | omega) only [l12_0_1, l12_0_4, l12_0_5, l12_0_6, l12_0_9, l12_0_10, l12_0_11, l12_0_13, l12_0_14, l12_0_15, l12_0_16, l12_0_17, l12_0_18, l12_0_19, l12_0_23, l12_0_24, l12_0_25, l12_0_27, n20_83, n20_84, n20_85, n20_86, n20_87, n20_88, n20_89, n20_90, n20_91, n20_92, n20_93, n20_94, n20_95, n20_96, n20_97, n20_98, n21_2, n21_3, n21_4, n21_5, n21_6, n22_20, m_0, m_1, m_87, m_88, m_89, m_90, m_91, m_92, m_93, m_94, m_95, m_96, m_97, m_98, p_0, p_1, p_87, p_88, p_89, p_90, p_91, p_92, p_93, p_94, p_95, p_96, p_97, p_98, gR_mmb, gN_mmb, gL_mmb, i3_add1, i3_add, i3_mul, i3_addl, i3_mull, i3_ladd, i3_lmul, i3_div4, i3_le, i3_lt, i3_eq, i3_lel, i3_lle, i3_ltl, i3_llt, i3_eql, i3_leq, i3_nl, i3_0l, i3_nn, n1_lt, n1_le, xi_i3, xin_i3, xi_lit, xin_lit, xb0, xb1, gd_t, nz4, Option.bind_some, gR_emb, gN_emb, gL_emb, ↓reduceIte, if_true, if_false, not_true_eq_false, not_false_eq_true, eq_self, Nat.not_lt_zero, Nat.zero_le, true_or, or_true, false_or, or_false, true_and, and_true, false_and, and_false]
    have ht : F_X12_tally fu 0 (i3 b) 0 (i3 (tot C)) 1 (mmb X1 M) = _ := t_tally0 (w := 1) h hb hB hI S1 (show 100 < fu by omega) (by decide)
    rw [ht]
    have S2 := Sg_lk hb S1
    have f20 : lkX X1 b (i3 (fsN D), i3 (wpN D)) 93 0 = D 15 3 := (lkX_o (Or.inl (by decide))).trans f10
    generalize lkX X1 b (i3 (fsN D), i3 (wpN D)) = X2 at S2 f20
    simp (disch := first | assumption | omega) only [l12_0_1, l12_0_4, l12_0_5, l12_0_6, l12_0_9, l12_0_10, l12_0_11, l12_0_13, l12_0_14, l12_0_15, l12_0_16, l12_0_17, l12_0_18, l12_0_19, l12_0_23, l12_0_24, l12_0_25, l12_0_27, n20_83, n20_84, n20_85, n20_86, n20_87, n20_88, n20_89, n20_90, n20_91, n20_92, n20_93, n20_94, n20_95, n20_96, n20_97, n20_98, n21_2, n21_3, n21_4, n21_5, n21_6, n22_20, m_0, m_1, m_87, m_88, m_89, m_90, m_91, m_92, m_93, m_94, m_95, m_96, m_97, m_98, p_0, p_1, p_87, p_88, p_89, p_90, p_91, p_92, p_93, p_94, p_95, p_96, p_97, p_98, gR_mmb, gN_mmb, gL_mmb, i3_add1, i3_add, i3_mul, i3_addl, i3_mull, i3_ladd, i3_lmul, i3_div4, i3_le, i3_lt, i3_eq, i3_lel, i3_lle, i3_ltl, i3_llt, i3_eql, i3_leq, i3_nl, i3_0l, i3_nn, n1_lt, n1_le, xi_i3, xin_i3, xi_lit, xin_lit, xb0, xb1, gd_t, nz4, Option.bind_some, gR_emb, gN_emb, gL_emb, ↓reduceIte, if_true, if_false, not_true_eq_false, not_false_eq_true, eq_self, Nat.not_lt_zero, Nat.zero_le, true_or, or_true, false_or, or_false, true_and, and_true, false_and, and_false]
    have S3 : Sg C R b D X (up X2 93 1 (i3 (cnt (tlB D 1) (tot C)))) := Sg_o S2 (fun j k h1 h2 => up_ne (by omega))
    have f30 : up X2 93 1 (i3 (cnt (tlB D 1) (tot C))) 93 0 = D 15 3 := (up_ne (by omega)).trans f20
    have f31 : up X2 93 1 (i3 (cnt (tlB D 1) (tot C))) 93 1 = i3 (cnt (tlB D 1) (tot C)) := up_eq
    generalize up X2 93 1 (i3 (cnt (tlB D 1) (tot C))) = X3 at S3 f30 f31
    rw [t_all h S3.2.1]
    simp (disch := first | assumption | omega) only [l12_0_1, l12_0_4, l12_0_5, l12_0_6, l12_0_9, l12_0_10, l12_0_11, l12_0_13, l12_0_14, l12_0_15, l12_0_16, l12_0_17, l12_0_18, l12_0_19, l12_0_23, l12_0_24, l12_0_25, l12_0_27, n20_83, n20_84, n20_85, n20_86, n20_87, n20_88, n20_89, n20_90, n20_91, n20_92, n20_93, n20_94, n20_95, n20_96, n20_97, n20_98, n21_2, n21_3, n21_4, n21_5, n21_6, n22_20, m_0, m_1, m_87, m_88, m_89, m_90, m_91, m_92, m_93, m_94, m_95, m_96, m_97, m_98, p_0, p_1, p_87, p_88, p_89, p_90, p_91, p_92, p_93, p_94, p_95, p_96, p_97, p_98, gR_mmb, gN_mmb, gL_mmb, i3_add1, i3_add, i3_mul, i3_addl, i3_mull, i3_ladd, i3_lmul, i3_div4, i3_le, i3_lt, i3_eq, i3_lel, i3_lle, i3_ltl, i3_llt, i3_eql, i3_leq, i3_nl, i3_0l, i3_nn, n1_lt, n1_le, xi_i3, xin_i3, xi_lit, xin_lit, xb0, xb1, gd_t, nz4, Option.bind_some, gR_emb, gN_emb, gL_emb, ↓reduceIte, if_true, if_false, not_true_eq_false, not_false_eq_true, eq_self, Nat.not_lt_zero, Nat.zero_le, true_or, or_true, false_or, or_false, true_and, and_true, false_and, and_false]
    have ht : F_X12_tally fu 0 (i3 b) 0 (i3 (tot C)) 2 (mmb X3 M) = _ := t_tally0 (w := 2) h hb hB hI S3 (show 100 < fu by omega) (by decide)
    rw [ht]
    have S4 := Sg_lk hb S3
    have f40 : lkX X3 b (i3 (fsN D), i3 (wpN D)) 93 0 = D 15 3 := (lkX_o (Or.inl (by decide))).trans f30
    have f41 : lkX X3 b (i3 (fsN D), i3 (wpN D)) 93 1 = i3 (cnt (tlB D 1) (tot C)) := (lkX_o (Or.inl (by decide))).trans f31
    generalize lkX X3 b (i3 (fsN D), i3 (wpN D)) = X4 at S4 f40 f41
    simp (disch := first | assumption | omega) only [l12_0_1, l12_0_4, l12_0_5, l12_0_6, l12_0_9, l12_0_10, l12_0_11, l12_0_13, l12_0_14, l12_0_15, l12_0_16, l12_0_17, l12_0_18, l12_0_19, l12_0_23, l12_0_24, l12_0_25, l12_0_27, n20_83, n20_84, n20_85, n20_86, n20_87, n20_88, n20_89, n20_90, n20_91, n20_92, n20_93, n20_94, n20_95, n20_96, n20_97, n20_98, n21_2, n21_3, n21_4, n21_5, n21_6, n22_20, m_0, m_1, m_87, m_88, m_89, m_90, m_91, m_92, m_93, m_94, m_95, m_96, m_97, m_98, p_0, p_1, p_87, p_88, p_89, p_90, p_91, p_92, p_93, p_94, p_95, p_96, p_97, p_98, gR_mmb, gN_mmb, gL_mmb, i3_add1, i3_add, i3_mul, i3_addl, i3_mull, i3_ladd, i3_lmul, i3_div4, i3_le, i3_lt, i3_eq, i3_lel, i3_lle, i3_ltl, i3_llt, i3_eql, i3_leq, i3_nl, i3_0l, i3_nn, n1_lt, n1_le, xi_i3, xin_i3, xi_lit, xin_lit, xb0, xb1, gd_t, nz4, Option.bind_some, gR_emb, gN_emb, gL_emb, ↓reduceIte, if_true, if_false, not_true_eq_false, not_false_eq_true, eq_self, Nat.not_lt_zero, Nat.zero_le, true_or, or_true, false_or, or_false, true_and, and_true, false_and, and_false]
    have S5 : Sg C R b D X (up X4 93 2 (i3 (cnt (tlB D 2) (tot C)))) := Sg_o S4 (fun j k h1 h2 => up_ne (by omega))
    have f50 : up X4 93 2 (i3 (cnt (tlB D 2) (tot C))) 93 0 = D 15 3 := (up_ne (by omega)).trans f40
    have f51 : up X4 93 2 (i3 (cnt (tlB D 2) (tot C))) 93 1 = i3 (cnt (tlB D 1) (tot C)) := (up_ne (by omega)).trans f41
    have f52 : up X4 93 2 (i3 (cnt (tlB D 2) (tot C))) 93 2 = i3 (cnt (tlB D 2) (tot C)) := up_eq
    generalize up X4 93 2 (i3 (cnt (tlB D 2) (tot C))) = X5 at S5 f50 f51 f52
    rw [t_journalOf h S5.2.1 hb hB S5.1 hI.2.1 hI.2.2.1 hI.2.2.2.1 hI.2.2.2.2.2.1 S5.2.2.2.1 (by omega)]
    have S6 := Sg_lk hb S5
    have f60 : lkX X5 b (i3 (fsN D), i3 (wpN D)) 93 0 = D 15 3 := (lkX_o (Or.inl (by decide))).trans f50
    have f61 : lkX X5 b (i3 (fsN D), i3 (wpN D)) 93 1 = i3 (cnt (tlB D 1) (tot C)) := (lkX_o (Or.inl (by decide))).trans f51
    have f62 : lkX X5 b (i3 (fsN D), i3 (wpN D)) 93 2 = i3 (cnt (tlB D 2) (tot C)) := (lkX_o (Or.inl (by decide))).trans f52
    generalize lkX X5 b (i3 (fsN D), i3 (wpN D)) = X6 at S6 f60 f61 f62
    simp (disch := first | assumption | omega) only [l12_0_1, l12_0_4, l12_0_5, l12_0_6, l12_0_9, l12_0_10, l12_0_11, l12_0_13, l12_0_14, l12_0_15, l12_0_16, l12_0_17, l12_0_18, l12_0_19, l12_0_23, l12_0_24, l12_0_25, l12_0_27, n20_83, n20_84, n20_85, n20_86, n20_87, n20_88, n20_89, n20_90, n20_91, n20_92, n20_93, n20_94, n20_95, n20_96, n20_97, n20_98, n21_2, n21_3, n21_4, n21_5, n21_6, n22_20, m_0, m_1, m_87, m_88, m_89, m_90, m_91, m_92, m_93, m_94, m_95, m_96, m_97, m_98, p_0, p_1, p_87, p_88, p_89, p_90, p_91, p_92, p_93, p_94, p_95, p_96, p_97, p_98, gR_mmb, gN_mmb, gL_mmb, i3_add1, i3_add, i3_mul, i3_addl, i3_mull, i3_ladd, i3_lmul, i3_div4, i3_le, i3_lt, i3_eq, i3_lel, i3_lle, i3_ltl, i3_llt, i3_eql, i3_leq, i3_nl, i3_0l, i3_nn, n1_lt, n1_le, xi_i3, xin_i3, xi_lit, xin_lit, xb0, xb1, gd_t, nz4, Option.bind_some, gR_emb, gN_emb, gL_emb, ↓reduceIte, if_true, if_false, not_true_eq_false, not_false_eq_true, eq_self, Nat.not_lt_zero, Nat.zero_le, true_or, or_true, false_or, or_false, true_and, and_true, false_and, and_false]
    have S7 : Sg C R b D X (up X6 93 3 (i3 (cnt (jourB D) (tot C)))) := Sg_o S6 (fun j k h1 h2 => up_ne (by omega))
    have f70 : up X6 93 3 (i3 (cnt (jourB D) (tot C))) 93 0 = D 15 3 := (up_ne (by omega)).trans f60
    have f71 : up X6 93 3 (i3 (cnt (jourB D) (tot C))) 93 1 = i3 (cnt (tlB D 1) (tot C)) := (up_ne (by omega)).trans f61
    have f72 : up X6 93 3 (i3 (cnt (jourB D) (tot C))) 93 2 = i3 (cnt (tlB D 2) (tot C)) := (up_ne (by omega)).trans f62
    have f73 : up X6 93 3 (i3 (cnt (jourB D) (tot C))) 93 3 = i3 (cnt (jourB D) (tot C)) := up_eq
    have e96 : X6 90 4 = up X6 93 3 (i3 (cnt (jourB D) (tot C))) 90 4 := (up_ne (by omega)).symm
    try rw [e96]
    generalize up X6 93 3 (i3 (cnt (jourB D) (tot C))) = X7 at S7 f70 f71 f72 f73
    have hfx : ∀ k, k < 4 → X7 93 k = factT a (surveyT D (C 0 0) (C 0 1)) (surveyT D (C 0 0) (C 0 1) 15 3) (surveyT D (C 0 0) (C 0 1) 14 14) (surveyT D (C 0 0) (C 0 1) 15 2 - surveyT D (C 0 0) (C 0 1) 15 3 - surveyT D (C 0 0) (C 0 1) 14 14) (surveyT D (C 0 0) (C 0 1) 14 15) (26 + 2 * a) k := by
      intro k hk
      rw [dirty_all hB hI hV, surv_14 hB hV, surv_15 hB hV, surveyT_lo (j := 15) (by omega)]
      have e1 : tlB D 1 = liveB D := by funext s; unfold tlB; simp
      rw [e1] at f71
      unfold factT
      match k, hk with
      | 0, _ => rw [up_ne (by omega), up_ne (by omega), up_ne (by omega), up_eq]; exact f70
      | 1, _ => rw [up_ne (by omega), up_ne (by omega), up_eq]; exact f71
      | 2, _ => rw [up_ne (by omega), up_eq]; exact f72
      | 3, _ => rw [up_eq]; exact f73
    have hw1 : (wantsT C R a D).1 = ! decide ((valT a (C 0 4) R (factT a (surveyT D (C 0 0) (C 0 1)) (surveyT D (C 0 0) (C 0 1) 15 3) (surveyT D (C 0 0) (C 0 1) 14 14) (surveyT D (C 0 0) (C 0 1) 15 2 - surveyT D (C 0 0) (C 0 1) 15 3 - surveyT D (C 0 0) (C 0 1) 14 14) (surveyT D (C 0 0) (C 0 1) 14 15))).1 = 0) := by
      unfold wantsT
      rw [if_neg h4]
    obtain ⟨Y, hrun, hY⟩ := t_worthAt (fu := fu) (M := M) h hf S7.2.2.1 c4 h4 hfx
    generalize (valT a (C 0 4) R (factT a (surveyT D (C 0 0) (C 0 1)) (surveyT D (C 0 0) (C 0 1) 15 3) (surveyT D (C 0 0) (C 0 1) 14 14) (surveyT D (C 0 0) (C 0 1) 15 2 - surveyT D (C 0 0) (C 0 1) 15 3 - surveyT D (C 0 0) (C 0 1) 14 14) (surveyT D (C 0 0) (C 0 1) 14 15))).1 = v at hrun hw1
    rw [hrun]
    simp only [Option.bind_some]
    have S8 := Sg_o S7 (fun j k _ h2 => hY j k h2)
    have hWR : Rel C b (wantsT C R a D).2 Y := Rel_cg S8.1 (fun j k hj => wantsT_lo (by omega))
    have hWL : Y 0 22 = i3 b → Lk (wantsT C R a D).2 Y := fun e => Lk_cg (S8.2.2.2.1 e) (wantsT_lo (by omega)) (wantsT_lo (by omega))
    have hPc : Pc nt b D (wantsT C R a D).2 X Y := Pc_rf S8.2.2.2.2.2 (wantsT_lo (by omega))
    by_cases hv : v = 0
    · rw [if_pos hv]
      have : firstT2 C R a nt D = (false, (wantsT C R a D).2) := by
        unfold firstT2
        rw [hw1, hv]; rfl
      rw [this]
      exact ⟨Y, rfl, hWR, S8.2.1, S8.2.2.1, S8.2.2.2.2.1, hWL, hPc⟩
    · rw [if_neg hv]
      have : firstT2 C R a nt D = (decide ((collectT nt (wantsT C R a D).2 (C 0 0) (C 0 1)).1 = -2), (collectT nt (wantsT C R a D).2 (C 0 0) (C 0 1)).2) := by
        unfold firstT2
        rw [hw1, decide_eq_false hv]; rfl
      rw [this]
      obtain ⟨X', k1, k2, k3, k4, k5, k6⟩ := t_collects (fu := fu) (M := M) h S8.2.1 hb hB hWR (Inv_wants hI) (InV_wants hB hV) hWL (by omega) nt
      rw [k1]
      simp only [Option.bind_some]
      refine ⟨X', ?_, k2, k3, ?_, Fm_tr S8.2.2.2.2.1 k4, k5, Pc_tr hPc k6⟩
      · by_cases hc : (collectT nt (wantsT C R a D).2 (C 0 0) (C 0 1)).1 = -2
        · rw [if_neg (fun q => q hc), decide_eq_true hc]; rfl
        · rw [if_pos hc, decide_eq_false hc]; rfl
      · exact RuleAs_fm S8.2.2.1 (k4.1 90 4 (by omega) (by decide) (by decide) (by decide) (by decide)) (fun k => k4.1 91 k (by omega) (by decide) (by decide) (by decide) (by decide))
end
