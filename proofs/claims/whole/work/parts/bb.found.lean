/-! ===== found, agrees, loses: both sides ===== -/
section
variable {M M' : xM} {D E X X' : xT} {C : xC} {R Bv S : Nat → Int32} {d e fu n m i j o p q a k l s t w K P L L' b B B' f : Nat} {v x y r z : Int32} {W A c : Nat → Nat} {V : Nat → Nat → Int32}
theorem Ag_cut : Ag (up D 14 2 v) D := ⟨fun j k h => up_ne (by omega), up_ne (by omega), up_ne (by omega)⟩
theorem t_tries (h : Lay M) (hB : CB C) (hM : MCfg C X) (hR : Rel C 0 D X) (hf : 1100 < fu) :
    ∃ X2, F_X12_tries fu 0 (mmb X M) = some (mmb X2 M) ∧ Rel C 1605 (up D 14 2 0) X2 ∧ MCfg C X2 ∧ Fm 1605 X X2 ∧ X2 0 22 = -1 := by
  have hmv : F_X12_moves fu 0 0 1605 502 (mmb X M) = some (mmb (mvX X 0 1605 502) M) := t_moves (p := 0) (q := 1605) (n := 502) h (by omega) (by omega) (by omega) (by omega)
  have hF := Fm_mv (X := X) (p := 0) (q := 1605) (by omega)
  have hF2 : Fm 1605 X (up (mvX X 0 1605 502) 95 1608 0) := Fm_tr hF (Fm_95 (fun j k hj => up_ne (by omega)) (fun k hk => up_ne (by omega)))
  refine ⟨up (mvX X 0 1605 502) 95 1608 0, ?_, ?_, MCfg_90 hM (fun k => hF2.1 90 k (by omega) (by decide) (by decide) (by decide) (by decide)), hF2, ?_⟩
  · unfold F_X12_tries
    rw [hmv]
    simp only [Option.bind_some]
    rw [gr17 h]
    simp only [Option.bind_some]
    rw [show (1608 : Int32) = i3 1608 from rfl, gd95 h (by omega), xi_i3 (by omega)]
    simp only [p_95]
  · exact Rel_cut2 (k := 0) (Rel_move (p := 0) (q := 1605) hB hR)
  · rw [up_ne (by omega)]
    unfold mvX
    rw [if_pos ⟨rfl, rfl⟩]
/-- what a mount would find is laid out in the trial -/
theorem t_finds (h : Lay M) (hB : CB C) (hM : MCfg C X) (hR : Rel C 0 D X) (hI : Inv C L D) (hf : 1100 < fu) (hf2 : L + 100 < fu) :
    ∃ X', F_X12_finds fu 0 (mmb X M) = some (mmb X' M) ∧ Rel C 1605 (mountT (up D 14 2 0) (C 0 0) (C 0 1)) X' ∧ MCfg C X' ∧ Fm 1605 X X' ∧ ¬ X' 0 22 = i3 0 := by
  obtain ⟨X2, k1, k2, k3, k4, k5⟩ := t_tries (fu := fu) (M := M) h hB hM hR hf
  have hI2 : Inv C L (up D 14 2 0) := by
    have := Inv_cuA (c := 0) (N := D) hI (by omega)
    rw [← cut_as rfl] at this
    exact this
  obtain ⟨X', m1, m2, m3, m4, m5, m6⟩ := t_mounts (fu := fu) (M := M) (b := 1605) h k3 (by omega) hB k2 hI2 (fun e => by rw [k5] at e; exact absurd e (neg_i3 (by omega))) hf hf2 false
  refine ⟨X', ?_, m2, m3, Fm_tr k4 m4, fun e => ?_⟩
  · unfold F_X12_finds
    rw [k1]
    simp only [Option.bind_some]
    rw [show F_X12_mounts fu 0 1605 (mmb X2 M) = _ from m1]
    rfl
  · have := (m4.2.2 0 (by omega) (by omega) e).1
    rw [k5] at this
    exact absurd this (neg_i3 (by omega))
theorem FmS_find (hF : Fm 1605 (up X 0 0 v) X') (hn : ¬ X' 0 22 = i3 0) : FmS D X X' := by
  refine ⟨fun j k h => ?_, fun k hk => ?_, fun q => absurd q hn⟩
  · exact (hF.1 j k (by omega) (by omega) (by omega) (by omega) (by omega)).trans (up_ne (by omega))
  · exact (hF.2.1 k (by omega)).trans (up_ne (by omega))
theorem fd16 (hk : k < 20) : mountT (up D 14 2 0) (C 0 0) (C 0 1) 9 k = findT D (tot C) 16 k := by
  rw [mount_9 hk]
  exact find_agr Ag_cut (by omega)
/-- the look that the class takes for all three -/
theorem op_find {g1 g2 : xM → Option (Int32 × xM)} (hS : SimP C R a w n W V B M) (hc : g1 M = some (r, emb 0 (findT (tb 0 M) (tot C)) M)) (hg : ∀ M1, Lay M1 → ∃ X', g2 (mmb (tX M) M1) = some (r, mmb X' M1) ∧ Fm 1605 (up (tX M) 0 0 0) X' ∧ ¬ X' 0 22 = i3 0) : Both C R a w n W V B g1 g2 M := by
  obtain ⟨L, l1, l2, l3, l4, l5, l6⟩ := hS.2.2.2.2.2.2.1
  refine op_read hS hc (fun j k h1 h2 h3 h4 => findT_lo (by omega)) (InV_lo (fun j k hj => findT_lo (by omega)) l3) (fun j k h1 h2 => findT_lo (by omega)) (fun M1 h1 => ?_)
  obtain ⟨X', q1, q2, q3⟩ := hg M1 h1
  exact ⟨X', q1, FmS_find q2 q3⟩
theorem op_found (hS : SimP C R a w n W V B M) (hf : 1100 < fu) (hf2 : B + 100 < fu) : Both C R a w n W V B (F_X11_found fu 0) (F_X12_found fu 0) M := by
  obtain ⟨s1, s2, s3, s4, s5, s6, ⟨L, l1, l2, l3, l4, l5, l6⟩, s8, s9, s10, s11, s12, s13, s14, s15⟩ := id hS
  have h := s1.1
  have ef := e_find (fu := fu) (M := M) (D := tb 0 M) (d := 0) h (by omega) l2.1 (by omega)
  rw [emb_tb, show C 0 0 * C 0 1 = tot C from rfl] at ef
  refine op_find (r := i3 (cnt (fun a => ! decide (findT (tb 0 M) (tot C) 16 a = 0)) 20)) hS ?_ (fun M1 h1 => ?_)
  · unfold F_X11_found F_X2_foundPages
    rw [l11_0_6 h]
    simp only [Option.bind_some]
    rw [l2_5 h (by omega)]
    simp only [Option.bind_some]
    rw [l2_0 h (by omega), ef]
    simp only [Option.bind_some]
    generalize findT (tb 0 M) (tot C) = E
    have key := lpc (fun l i x => L_X2_foundPages_15 fu l 0 x (i3 i) (emb 0 E M)) (fun i => i3 (cnt (fun a => ! decide (E 16 a = 0)) i)) 20 (some (i3 (cnt (fun a => ! decide (E 16 a = 0)) 20), emb 0 E M)) ?_ ?_ fu 0 (by omega) (by omega)
    · rw [show L_X2_foundPages_15 fu fu 0 0 0 (emb 0 E M) = _ from key]
      rfl
    · intro l i hi
      show L_X2_foundPages_15 fu (l + 1) 0 (i3 (cnt (fun a => ! decide (E 16 a = 0)) i)) (i3 i) (emb 0 E M) = L_X2_foundPages_15 fu l 0 (i3 (cnt (fun a => ! decide (E 16 a = 0)) (i + 1))) (i3 (i + 1)) (emb 0 E M)
      rw [cnt_s]
      conv => lhs; unfold L_X2_foundPages_15
      simp (disch := first | assumption | omega) only [l0_7, l0_8, l0_9, l0_10, l0_11, l0_12, l0_13, l0_14, l0_15, l2_0, l2_5, l2_6, l2_7, l2_8, l2_9, l2_12, l2_13, l7_4, l7_5, l7_6, l7_7, l8_0, l8_1, l8_2, l9_1, l9_2, l9_3, l9_4, l4_0_0, l4_0_1, l4_0_2, l4_0_3, l3_0_2, l3_0_3, l3_0_4, l3_0_5, l10_0_0, l1_0_1, l1_0_2, l1_0_3, l1_1_1, l1_1_2, l1_1_3, l1_2_1, l1_2_2, l1_2_3, l5_0_0, l5_0_2, l5_0_3, l5_0_4, l11_0_0, l11_0_5, l11_0_6, l11_0_7, l11_0_8, l11_0_9, l11_0_10, l11_0_11, l11_0_12, l11_0_13, l24_0_0, l24_0_1, l25_0_0, l25_0_1, l12_0_1, l12_0_4, l12_0_5, l12_0_6, l12_0_9, l12_0_10, l12_0_11, l12_0_13, l12_0_14, l12_0_15, l12_0_16, l12_0_17, l12_0_18, l12_0_19, l12_0_23, l12_0_24, l12_0_25, l12_0_27, n_a0, n_a1, n_a2, n_a3, n_a4, n_a5, n_a6, n_a7, n_a8, n_a9, n_a10, n_b0, n_b1, n_b2, n_p0, n_p1, n_p2, n_p3, n_p4, n_s0, n_s1, n_s2, n_s3, n_nm, n20_18, n20_19, n20_20, n20_21, n20_44, n20_45, n20_46, n20_47, n20_48, n20_49, n20_83, n20_84, n20_85, n20_86, n20_87, n20_88, n20_89, n20_90, n20_91, n20_92, n20_93, n20_94, n20_95, n20_96, n20_97, n20_98, n21_2, n21_3, n21_4, n21_5, n21_6, n22_6, n22_7, n22_17, n22_18, n22_19, n22_20, n23_0, n24_0, n25_0, r_a0, w_a0, r_a1, w_a1, r_a2, w_a2, r_a3, w_a3, r_a4, w_a4, r_a5, w_a5, r_a6, w_a6, r_a7, w_a7, r_a8, w_a8, r_a9, w_a9, r_a10, w_a10, r_b0, w_b0, r_b1, w_b1, r_b2, w_b2, r_d, w_d, r_c, w_c, r_e, w_e, r_t, w_t, r_f0, w_f0, r_f1, w_f1, r_f2, w_f2, r_f3, w_f3, r_e0, w_e0, r_e1, w_e1, r_e2, w_e2, r_o7, r_o8, r_o9, r_o10, r_o1, r_o5, r_o6, r_o11, r_o12, r_o21, r_o23, r_p0, r_p1, r_p2, r_s0, r_s1, r_s2, r_s3, i3_add1, i3_add, i3_mul, i3_addl, i3_mull, i3_ladd, i3_lmul, i3_div4, i3_le, i3_lt, i3_eq, i3_lel, i3_lle, i3_ltl, i3_llt, i3_eql, i3_leq, i3_nl, i3_0l, i3_nn, n1_lt, n1_le, xi_i3, xin_i3, xi_lit, xin_lit, xb0, xb1, gd_t, nz4, Option.bind_some, gR_emb, gN_emb, gL_emb, ↓reduceIte, if_true, if_false, not_true_eq_false, not_false_eq_true, eq_self, Nat.not_lt_zero, Nat.zero_le, true_or, or_true, false_or, or_false, true_and, and_true, false_and, and_false]
      rw [if_neg (by omega)]
      by_cases c : E 16 i = 0
      · rw [if_pos c, decide_eq_true c, if_neg (by decide)]
      · rw [if_neg c, decide_eq_false c, if_pos (by decide)]
    · intro l
      show L_X2_foundPages_15 fu (l + 1) 0 (i3 (cnt (fun a => ! decide (E 16 a = 0)) 20)) (i3 20) (emb 0 E M) = _
      conv => lhs; unfold L_X2_foundPages_15
      rw [if_pos (show (20 : Int32) ≤ i3 20 from Int32.le_refl _)]
  · obtain ⟨X', k1, k2, k3, k4, k5⟩ := t_finds (fu := fu) (M := M1) h1 s2 (up0_M (v := 0) s4) (up0_Rel (v := 0) l4) l2 hf (by omega)
    have hI2 : Inv C L (up (tb 0 M) 14 2 0) := by
      have := Inv_cuA (c := 0) (N := tb 0 M) l2 (by omega)
      rw [← cut_as rfl] at this
      exact this
    have kp := t_pagesKept (fu := fu) (M := M1) (x := -1) h1 (by omega) k2 (Inv_mount s2 hI2).2.2.2.2.1 (by omega)
    refine ⟨X', ?_, k4, k5⟩
    unfold F_X12_found
    simp only [sI_th]
    rw [k1]
    simp only [Option.bind_some]
    rw [show F_X12_pagesKept fu 0 1605 (-1) (mmb X' M1) = _ from kp]
    simp only [Option.bind_some]
    congr 3
    refine cnt_congr (fun i hi => ?_)
    have e12 := (mount_141 (D := up (tb 0 M) 14 2 0) (nb := C 0 0) (nw := C 0 1)).2.2 (i / 4) (by omega)
    unfold kepB keptT
    rw [fd16 hi, e12.2, decide_eq_true rfl, Bool.and_true, decide_not]
    have : ¬ i3 (i / 4) = -1 := fun q => (i3_nn (by omega)).mp q
    rw [decide_eq_false this]
    simp
theorem op_loses (hS : SimP C R a w n W V B M) (hf : 1100 < fu) (hf2 : B + 100 < fu) : Both C R a w n W V B (F_X11_loses fu 0) (F_X12_loses fu 0) M := by
  obtain ⟨s1, s2, s3, s4, s5, s6, ⟨L, l1, l2, l3, l4, l5, l6⟩, s8, s9, s10, s11, s12, s13, s14, s15⟩ := id hS
  have h := s1.1
  have ef := e_find (fu := fu) (M := M) (D := tb 0 M) (d := 0) h (by omega) l2.1 (by omega)
  rw [emb_tb, show C 0 0 * C 0 1 = tot C from rfl] at ef
  have h9 : ∀ k, findT (tb 0 M) (tot C) 9 k = tb 0 M 9 k := fun k => findT_lo (by omega)
  refine op_find (r := i3 (cnt (fun a => ! decide (tb 0 M 9 a = 0) && decide (findT (tb 0 M) (tot C) 16 a = 0)) 20)) hS ?_ (fun M1 h1 => ?_)
  · unfold F_X11_loses F_X2_lostPages
    rw [l11_0_6 h]
    simp only [Option.bind_some]
    rw [l2_5 h (by omega)]
    simp only [Option.bind_some]
    rw [l2_0 h (by omega), ef]
    simp only [Option.bind_some]
    generalize findT (tb 0 M) (tot C) = E at h9
    have key := lpc (fun l i x => L_X2_lostPages_15 fu l 0 x (i3 i) (emb 0 E M)) (fun i => i3 (cnt (fun a => ! decide (tb 0 M 9 a = 0) && decide (E 16 a = 0)) i)) 20 (some (i3 (cnt (fun a => ! decide (tb 0 M 9 a = 0) && decide (E 16 a = 0)) 20), emb 0 E M)) ?_ ?_ fu 0 (by omega) (by omega)
    · rw [show L_X2_lostPages_15 fu fu 0 0 0 (emb 0 E M) = _ from key]
      rfl
    · intro l i hi
      show L_X2_lostPages_15 fu (l + 1) 0 (i3 (cnt (fun a => ! decide (tb 0 M 9 a = 0) && decide (E 16 a = 0)) i)) (i3 i) (emb 0 E M) = L_X2_lostPages_15 fu l 0 (i3 (cnt (fun a => ! decide (tb 0 M 9 a = 0) && decide (E 16 a = 0)) (i + 1))) (i3 (i + 1)) (emb 0 E M)
      have e9 := h9 i
      rw [cnt_s]
      conv => lhs; unfold L_X2_lostPages_15
      simp (disch := first | assumption | omega) only [l0_7, l0_8, l0_9, l0_10, l0_11, l0_12, l0_13, l0_14, l0_15, l2_0, l2_5, l2_6, l2_7, l2_8, l2_9, l2_12, l2_13, l7_4, l7_5, l7_6, l7_7, l8_0, l8_1, l8_2, l9_1, l9_2, l9_3, l9_4, l4_0_0, l4_0_1, l4_0_2, l4_0_3, l3_0_2, l3_0_3, l3_0_4, l3_0_5, l10_0_0, l1_0_1, l1_0_2, l1_0_3, l1_1_1, l1_1_2, l1_1_3, l1_2_1, l1_2_2, l1_2_3, l5_0_0, l5_0_2, l5_0_3, l5_0_4, l11_0_0, l11_0_5, l11_0_6, l11_0_7, l11_0_8, l11_0_9, l11_0_10, l11_0_11, l11_0_12, l11_0_13, l24_0_0, l24_0_1, l25_0_0, l25_0_1, l12_0_1, l12_0_4, l12_0_5, l12_0_6, l12_0_9, l12_0_10, l12_0_11, l12_0_13, l12_0_14, l12_0_15, l12_0_16, l12_0_17, l12_0_18, l12_0_19, l12_0_23, l12_0_24, l12_0_25, l12_0_27, n_a0, n_a1, n_a2, n_a3, n_a4, n_a5, n_a6, n_a7, n_a8, n_a9, n_a10, n_b0, n_b1, n_b2, n_p0, n_p1, n_p2, n_p3, n_p4, n_s0, n_s1, n_s2, n_s3, n_nm, n20_18, n20_19, n20_20, n20_21, n20_44, n20_45, n20_46, n20_47, n20_48, n20_49, n20_83, n20_84, n20_85, n20_86, n20_87, n20_88, n20_89, n20_90, n20_91, n20_92, n20_93, n20_94, n20_95, n20_96, n20_97, n20_98, n21_2, n21_3, n21_4, n21_5, n21_6, n22_6, n22_7, n22_17, n22_18, n22_19, n22_20, n23_0, n24_0, n25_0, r_a0, w_a0, r_a1, w_a1, r_a2, w_a2, r_a3, w_a3, r_a4, w_a4, r_a5, w_a5, r_a6, w_a6, r_a7, w_a7, r_a8, w_a8, r_a9, w_a9, r_a10, w_a10, r_b0, w_b0, r_b1, w_b1, r_b2, w_b2, r_d, w_d, r_c, w_c, r_e, w_e, r_t, w_t, r_f0, w_f0, r_f1, w_f1, r_f2, w_f2, r_f3, w_f3, r_e0, w_e0, r_e1, w_e1, r_e2, w_e2, r_o7, r_o8, r_o9, r_o10, r_o1, r_o5, r_o6, r_o11, r_o12, r_o21, r_o23, r_p0, r_p1, r_p2, r_s0, r_s1, r_s2, r_s3, i3_add1, i3_add, i3_mul, i3_addl, i3_mull, i3_ladd, i3_lmul, i3_div4, i3_le, i3_lt, i3_eq, i3_lel, i3_lle, i3_ltl, i3_llt, i3_eql, i3_leq, i3_nl, i3_0l, i3_nn, n1_lt, n1_le, xi_i3, xin_i3, xi_lit, xin_lit, xb0, xb1, gd_t, nz4, Option.bind_some, gR_emb, gN_emb, gL_emb, ↓reduceIte, if_true, if_false, not_true_eq_false, not_false_eq_true, eq_self, Nat.not_lt_zero, Nat.zero_le, true_or, or_true, false_or, or_false, true_and, and_true, false_and, and_false, e9]
      rw [if_neg (by omega)]
      by_cases c : tb 0 M 9 i = 0
      · rw [if_pos c, decide_eq_true c, Bool.not_true, Bool.false_and, if_neg (by decide)]
      · rw [if_neg c, decide_eq_false c, Bool.not_false, Bool.true_and]
        by_cases c2 : E 16 i = 0
        · rw [if_neg (fun q => q c2), if_pos (decide_eq_true c2)]
        · rw [if_pos c2, if_neg (by rw [decide_eq_false c2]; decide)]
    · intro l
      show L_X2_lostPages_15 fu (l + 1) 0 (i3 (cnt (fun a => ! decide (tb 0 M 9 a = 0) && decide (E 16 a = 0)) 20)) (i3 20) (emb 0 E M) = _
      conv => lhs; unfold L_X2_lostPages_15
      rw [if_pos (show (20 : Int32) ≤ i3 20 from Int32.le_refl _)]
  · obtain ⟨X', k1, k2, k3, k4, k5⟩ := t_finds (fu := fu) (M := M1) h1 s2 (up0_M (v := 0) s4) (up0_Rel (v := 0) l4) l2 hf (by omega)
    have hm := l2.2.2.2.2.1
    refine ⟨X', ?_, k4, k5⟩
    unfold F_X12_loses
    simp only [sI_th]
    rw [k1]
    simp only [Option.bind_some]
    refine lpc (fun l i x => L_X12_loses_13 fu l 0 x (i3 i) (mmb X' M1)) (fun i => i3 (cnt (fun a => ! decide (tb 0 M 9 a = 0) && decide (findT (tb 0 M) (tot C) 16 a = 0)) i)) 20 _ ?_ ?_ fu 0 (by omega) (by omega)
    · intro l i hi
      show L_X12_loses_13 fu (l + 1) 0 (i3 (cnt (fun a => ! decide (tb 0 M 9 a = 0) && decide (findT (tb 0 M) (tot C) 16 a = 0)) i)) (i3 i) (mmb X' M1) = L_X12_loses_13 fu l 0 (i3 (cnt (fun a => ! decide (tb 0 M 9 a = 0) && decide (findT (tb 0 M) (tot C) 16 a = 0)) (i + 1))) (i3 (i + 1)) (mmb X' M1)
      have e9 : X' 95 (14 + i) = tb 0 M 9 i := by
        have := l4.2.2.2.2.2.2.2.2.1 i hi
        rw [Nat.zero_add] at this
        exact ((k4.2.1 _ (by omega)).trans (up_ne (by omega))).trans this
      have e16 : X' 95 (1619 + i) = findT (tb 0 M) (tot C) 16 i := (k2.2.2.2.2.2.2.2.2.1 i hi).trans (fd16 hi)
      rw [cnt_s]
      conv => lhs; unfold L_X12_loses_13
      simp (disch := first | assumption | omega) only [l12_0_1, l12_0_4, l12_0_5, l12_0_6, l12_0_9, l12_0_10, l12_0_11, l12_0_13, l12_0_14, l12_0_15, l12_0_16, l12_0_17, l12_0_18, l12_0_19, l12_0_23, l12_0_24, l12_0_25, l12_0_27, n20_83, n20_84, n20_85, n20_86, n20_87, n20_88, n20_89, n20_90, n20_91, n20_92, n20_93, n20_94, n20_95, n20_96, n20_97, n20_98, n21_2, n21_3, n21_4, n21_5, n21_6, n22_20, m_0, m_1, m_87, m_88, m_89, m_90, m_91, m_92, m_93, m_94, m_95, m_96, m_97, m_98, p_0, p_1, p_87, p_88, p_89, p_90, p_91, p_92, p_93, p_94, p_95, p_96, p_97, p_98, gR_mmb, gN_mmb, gL_mmb, i3_add1, i3_add, i3_mul, i3_addl, i3_mull, i3_ladd, i3_lmul, i3_div4, i3_le, i3_lt, i3_eq, i3_lel, i3_lle, i3_ltl, i3_llt, i3_eql, i3_leq, i3_nl, i3_0l, i3_nn, n1_lt, n1_le, xi_i3, xin_i3, xi_lit, xin_lit, xb0, xb1, gd_t, nz4, Option.bind_some, gR_emb, gN_emb, gL_emb, ↓reduceIte, if_true, if_false, not_true_eq_false, not_false_eq_true, eq_self, Nat.not_lt_zero, Nat.zero_le, true_or, or_true, false_or, or_false, true_and, and_true, false_and, and_false, e9, e16]
      rw [if_neg (by omega)]
      simp only [map_le hm hi]
      by_cases c : tb 0 M 9 i = 0
      · rw [if_pos c, decide_eq_true c, Bool.not_true, Bool.false_and, if_neg (by decide)]; rfl
      · rw [if_neg c, decide_eq_false c, Bool.not_false, Bool.true_and]
        by_cases c2 : findT (tb 0 M) (tot C) 16 i = 0
        · rw [if_neg (fun q => q c2), if_pos (decide_eq_true c2)]
        · rw [if_pos c2, if_neg (by rw [decide_eq_false c2]; decide)]; rfl
    · intro l
      show L_X12_loses_13 fu (l + 1) 0 (i3 (cnt (fun a => ! decide (tb 0 M 9 a = 0) && decide (findT (tb 0 M) (tot C) 16 a = 0)) 20)) (i3 20) (mmb X' M1) = _
      conv => lhs; unfold L_X12_loses_13
      rw [if_pos (show (20 : Int32) ≤ i3 20 from Int32.le_refl _)]
/-- the first k pages agree -/
def agB (g : Nat → Bool) : Nat → Bool
  | 0 => true
  | k + 1 => agB g k && g k
theorem ag_lst {g : Nat → Bool} : ∀ m, (match lst (fun a => ! g a) m with | some _ => false | none => true) = agB g m
  | 0 => rfl
  | m + 1 => by
    have ih := ag_lst (g := g) m
    unfold lst agB
    rw [← ih]
    cases lst (fun a => ! g a) m with
    | some i => rfl
    | none => cases g m <;> rfl
def agP (C : xC) (D : xT) (a : Nat) : Bool := decide (findT D (tot C) 16 a = if D 12 (a / 4) = 0 then D 9 a else 0)
theorem op_agrees (hS : SimP C R a w n W V B M) (hf : 1100 < fu) (hf2 : B + 100 < fu) : Both C R a w n W V B (F_X11_agrees fu 0) (F_X12_agrees fu 0) M := by
  obtain ⟨s1, s2, s3, s4, s5, s6, ⟨L, l1, l2, l3, l4, l5, l6⟩, s8, s9, s10, s11, s12, s13, s14, s15⟩ := id hS
  have h := s1.1
  have ef := e_find (fu := fu) (M := M) (D := tb 0 M) (d := 0) h (by omega) l2.1 (by omega)
  rw [emb_tb, show C 0 0 * C 0 1 = tot C from rfl] at ef
  have h9 : ∀ k, findT (tb 0 M) (tot C) 9 k = tb 0 M 9 k := fun k => findT_lo (by omega)
  have h12 : ∀ k, findT (tb 0 M) (tot C) 12 k = tb 0 M 12 k := fun k => findT_lo (by omega)
  refine op_find (r := bz (agB (agP C (tb 0 M)) 20)) hS ?_ (fun M1 h1 => ?_)
  · unfold F_X11_agrees F_X2_agreesWithFound
    rw [l11_0_6 h]
    simp only [Option.bind_some]
    rw [l2_5 h (by omega)]
    simp only [Option.bind_some]
    rw [l2_0 h (by omega), ef]
    simp only [Option.bind_some]
    have hag : ∀ a, agP C (tb 0 M) a = decide (findT (tb 0 M) (tot C) 16 a = if tb 0 M 12 (a / 4) = 0 then tb 0 M 9 a else 0) := fun a => rfl
    generalize findT (tb 0 M) (tot C) = E at h9 h12 hag ⊢
    have key := lpx (fun l i => L_X2_agreesWithFound_13 fu l 0 (i3 i) (emb 0 E M)) (fun a => ! agP C (tb 0 M) a) 20 (some (1, emb 0 E M)) (fun _ => some (0, emb 0 E M)) ?_ ?_ ?_ fu (by omega)
    · have e : (match lst (fun a => ! agP C (tb 0 M) a) 20 with | some i => some ((0 : Int32), emb 0 E M) | none => some (1, emb 0 E M)) = some (bz (agB (agP C (tb 0 M)) 20), emb 0 E M) := by
        rw [← ag_lst]
        cases lst (fun a => ! agP C (tb 0 M) a) 20 <;> rfl
      rw [show L_X2_agreesWithFound_13 fu fu 0 0 (emb 0 E M) = _ from key.trans e]
      simp only [Option.bind_some, bz_x, gd_t]
    · intro l i hi hp
      show L_X2_agreesWithFound_13 fu (l + 1) 0 (i3 i) (emb 0 E M) = L_X2_agreesWithFound_13 fu l 0 (i3 (i + 1)) (emb 0 E M)
      have e9 := h9 i
      rw [Bool.not_eq_false', hag, decide_eq_true_eq] at hp
      conv => lhs; unfold L_X2_agreesWithFound_13
      simp (disch := first | assumption | omega) only [l0_7, l0_8, l0_9, l0_10, l0_11, l0_12, l0_13, l0_14, l0_15, l2_0, l2_5, l2_6, l2_7, l2_8, l2_9, l2_12, l2_13, l7_4, l7_5, l7_6, l7_7, l8_0, l8_1, l8_2, l9_1, l9_2, l9_3, l9_4, l4_0_0, l4_0_1, l4_0_2, l4_0_3, l3_0_2, l3_0_3, l3_0_4, l3_0_5, l10_0_0, l1_0_1, l1_0_2, l1_0_3, l1_1_1, l1_1_2, l1_1_3, l1_2_1, l1_2_2, l1_2_3, l5_0_0, l5_0_2, l5_0_3, l5_0_4, l11_0_0, l11_0_5, l11_0_6, l11_0_7, l11_0_8, l11_0_9, l11_0_10, l11_0_11, l11_0_12, l11_0_13, l24_0_0, l24_0_1, l25_0_0, l25_0_1, l12_0_1, l12_0_4, l12_0_5, l12_0_6, l12_0_9, l12_0_10, l12_0_11, l12_0_13, l12_0_14, l12_0_15, l12_0_16, l12_0_17, l12_0_18, l12_0_19, l12_0_23, l12_0_24, l12_0_25, l12_0_27, n_a0, n_a1, n_a2, n_a3, n_a4, n_a5, n_a6, n_a7, n_a8, n_a9, n_a10, n_b0, n_b1, n_b2, n_p0, n_p1, n_p2, n_p3, n_p4, n_s0, n_s1, n_s2, n_s3, n_nm, n20_18, n20_19, n20_20, n20_21, n20_44, n20_45, n20_46, n20_47, n20_48, n20_49, n20_83, n20_84, n20_85, n20_86, n20_87, n20_88, n20_89, n20_90, n20_91, n20_92, n20_93, n20_94, n20_95, n20_96, n20_97, n20_98, n21_2, n21_3, n21_4, n21_5, n21_6, n22_6, n22_7, n22_17, n22_18, n22_19, n22_20, n23_0, n24_0, n25_0, r_a0, w_a0, r_a1, w_a1, r_a2, w_a2, r_a3, w_a3, r_a4, w_a4, r_a5, w_a5, r_a6, w_a6, r_a7, w_a7, r_a8, w_a8, r_a9, w_a9, r_a10, w_a10, r_b0, w_b0, r_b1, w_b1, r_b2, w_b2, r_d, w_d, r_c, w_c, r_e, w_e, r_t, w_t, r_f0, w_f0, r_f1, w_f1, r_f2, w_f2, r_f3, w_f3, r_e0, w_e0, r_e1, w_e1, r_e2, w_e2, r_o7, r_o8, r_o9, r_o10, r_o1, r_o5, r_o6, r_o11, r_o12, r_o21, r_o23, r_p0, r_p1, r_p2, r_s0, r_s1, r_s2, r_s3, i3_add1, i3_add, i3_mul, i3_addl, i3_mull, i3_ladd, i3_lmul, i3_div4, i3_le, i3_lt, i3_eq, i3_lel, i3_lle, i3_ltl, i3_llt, i3_eql, i3_leq, i3_nl, i3_0l, i3_nn, n1_lt, n1_le, xi_i3, xin_i3, xi_lit, xin_lit, xb0, xb1, gd_t, nz4, Option.bind_some, gR_emb, gN_emb, gL_emb, ↓reduceIte, if_true, if_false, not_true_eq_false, not_false_eq_true, eq_self, Nat.not_lt_zero, Nat.zero_le, true_or, or_true, false_or, or_false, true_and, and_true, false_and, and_false, e_isKept h (show 0 < 5 by omega) hi, bz_0]
      rw [if_neg (by omega)]
      unfold J_X2_agreesWithFound_46 keptT
      rw [e9, h12]
      by_cases c1 : tb 0 M 9 i = 0
      · rw [if_pos (by rw [decide_eq_false (fun q => q c1)]; rfl)]
        rw [if_pos (by rw [hp]; split <;> first | exact c1 | rfl), i3_add1]
      · by_cases c2 : tb 0 M 12 (i / 4) = 0
        · rw [if_neg (by rw [decide_eq_true c1, decide_eq_true c2]; decide)]
          rw [if_pos c2] at hp
          rw [if_pos (by rw [hp]), i3_add1]
        · rw [if_pos (by rw [decide_eq_false c2, Bool.and_false])]
          rw [if_neg c2] at hp
          rw [if_pos hp, i3_add1]
    · intro l i hi hp
      show L_X2_agreesWithFound_13 fu (l + 1) 0 (i3 i) (emb 0 E M) = _
      have e9 := h9 i
      rw [Bool.not_eq_true', hag, decide_eq_false_iff_not] at hp
      conv => lhs; unfold L_X2_agreesWithFound_13
      simp (disch := first | assumption | omega) only [l0_7, l0_8, l0_9, l0_10, l0_11, l0_12, l0_13, l0_14, l0_15, l2_0, l2_5, l2_6, l2_7, l2_8, l2_9, l2_12, l2_13, l7_4, l7_5, l7_6, l7_7, l8_0, l8_1, l8_2, l9_1, l9_2, l9_3, l9_4, l4_0_0, l4_0_1, l4_0_2, l4_0_3, l3_0_2, l3_0_3, l3_0_4, l3_0_5, l10_0_0, l1_0_1, l1_0_2, l1_0_3, l1_1_1, l1_1_2, l1_1_3, l1_2_1, l1_2_2, l1_2_3, l5_0_0, l5_0_2, l5_0_3, l5_0_4, l11_0_0, l11_0_5, l11_0_6, l11_0_7, l11_0_8, l11_0_9, l11_0_10, l11_0_11, l11_0_12, l11_0_13, l24_0_0, l24_0_1, l25_0_0, l25_0_1, l12_0_1, l12_0_4, l12_0_5, l12_0_6, l12_0_9, l12_0_10, l12_0_11, l12_0_13, l12_0_14, l12_0_15, l12_0_16, l12_0_17, l12_0_18, l12_0_19, l12_0_23, l12_0_24, l12_0_25, l12_0_27, n_a0, n_a1, n_a2, n_a3, n_a4, n_a5, n_a6, n_a7, n_a8, n_a9, n_a10, n_b0, n_b1, n_b2, n_p0, n_p1, n_p2, n_p3, n_p4, n_s0, n_s1, n_s2, n_s3, n_nm, n20_18, n20_19, n20_20, n20_21, n20_44, n20_45, n20_46, n20_47, n20_48, n20_49, n20_83, n20_84, n20_85, n20_86, n20_87, n20_88, n20_89, n20_90, n20_91, n20_92, n20_93, n20_94, n20_95, n20_96, n20_97, n20_98, n21_2, n21_3, n21_4, n21_5, n21_6, n22_6, n22_7, n22_17, n22_18, n22_19, n22_20, n23_0, n24_0, n25_0, r_a0, w_a0, r_a1, w_a1, r_a2, w_a2, r_a3, w_a3, r_a4, w_a4, r_a5, w_a5, r_a6, w_a6, r_a7, w_a7, r_a8, w_a8, r_a9, w_a9, r_a10, w_a10, r_b0, w_b0, r_b1, w_b1, r_b2, w_b2, r_d, w_d, r_c, w_c, r_e, w_e, r_t, w_t, r_f0, w_f0, r_f1, w_f1, r_f2, w_f2, r_f3, w_f3, r_e0, w_e0, r_e1, w_e1, r_e2, w_e2, r_o7, r_o8, r_o9, r_o10, r_o1, r_o5, r_o6, r_o11, r_o12, r_o21, r_o23, r_p0, r_p1, r_p2, r_s0, r_s1, r_s2, r_s3, i3_add1, i3_add, i3_mul, i3_addl, i3_mull, i3_ladd, i3_lmul, i3_div4, i3_le, i3_lt, i3_eq, i3_lel, i3_lle, i3_ltl, i3_llt, i3_eql, i3_leq, i3_nl, i3_0l, i3_nn, n1_lt, n1_le, xi_i3, xin_i3, xi_lit, xin_lit, xb0, xb1, gd_t, nz4, Option.bind_some, gR_emb, gN_emb, gL_emb, ↓reduceIte, if_true, if_false, not_true_eq_false, not_false_eq_true, eq_self, Nat.not_lt_zero, Nat.zero_le, true_or, or_true, false_or, or_false, true_and, and_true, false_and, and_false, e_isKept h (show 0 < 5 by omega) hi, bz_0]
      rw [if_neg (by omega)]
      unfold J_X2_agreesWithFound_46 keptT
      rw [e9, h12]
      by_cases c1 : tb 0 M 9 i = 0
      · rw [if_pos (by rw [decide_eq_false (fun q => q c1)]; rfl)]
        rw [if_neg (fun q => hp (by rw [q]; split <;> first | exact c1.symm | rfl)), xb_f, gd_t]
      · by_cases c2 : tb 0 M 12 (i / 4) = 0
        · rw [if_neg (by rw [decide_eq_true c1, decide_eq_true c2]; decide)]
          rw [if_pos c2] at hp
          rw [if_neg hp, xb_f, gd_t]
        · rw [if_pos (by rw [decide_eq_false c2, Bool.and_false])]
          rw [if_neg c2] at hp
          rw [if_neg hp, xb_f, gd_t]
    · intro l
      show L_X2_agreesWithFound_13 fu (l + 1) 0 (i3 20) (emb 0 E M) = _
      conv => lhs; unfold L_X2_agreesWithFound_13
      rw [if_pos (show (20 : Int32) ≤ i3 20 from Int32.le_refl _), xb_t, gd_t]
  · obtain ⟨X', k1, k2, k3, k4, k5⟩ := t_finds (fu := fu) (M := M1) h1 s2 (up0_M (v := 0) s4) (up0_Rel (v := 0) l4) l2 hf (by omega)
    have hR' : Rel C 0 (tb 0 M) X' := Rel_row (fun k _ _ => (k4.2.1 _ (by omega)).trans (up_ne (by omega))) s2 l4
    refine ⟨X', ?_, k4, k5⟩
    unfold F_X12_agrees
    simp only [sI_th]
    rw [k1]
    simp only [Option.bind_some]
    refine lpc (fun l i x => L_X12_agrees_13 fu l 0 x (i3 i) (mmb X' M1)) (fun i => bz (agB (agP C (tb 0 M)) i)) 20 _ ?_ ?_ fu 0 (by omega) (by omega)
    · intro l i hi
      show L_X12_agrees_13 fu (l + 1) 0 (bz (agB (agP C (tb 0 M)) i)) (i3 i) (mmb X' M1) = L_X12_agrees_13 fu l 0 (bz (agB (agP C (tb 0 M)) i && agP C (tb 0 M) i)) (i3 (i + 1)) (mmb X' M1)
      have e9 : X' 95 (14 + i) = tb 0 M 9 i := by
        have := hR'.2.2.2.2.2.2.2.2.1 i hi
        rw [Nat.zero_add] at this
        exact this
      have e16 : X' 95 (1619 + i) = findT (tb 0 M) (tot C) 16 i := (k2.2.2.2.2.2.2.2.2.1 i hi).trans (fd16 hi)
      have ko : F_X12_isOrphan fu 0 0 (i3 (i / 4)) (mmb X' M1) = some (tb 0 M 12 (i / 4), mmb X' M1) := t_isOrphan (b := 0) h1 (by omega) hR' (by omega)
      conv => lhs; unfold L_X12_agrees_13
      simp (disch := first | assumption | omega) only [l12_0_1, l12_0_4, l12_0_5, l12_0_6, l12_0_9, l12_0_10, l12_0_11, l12_0_13, l12_0_14, l12_0_15, l12_0_16, l12_0_17, l12_0_18, l12_0_19, l12_0_23, l12_0_24, l12_0_25, l12_0_27, n20_83, n20_84, n20_85, n20_86, n20_87, n20_88, n20_89, n20_90, n20_91, n20_92, n20_93, n20_94, n20_95, n20_96, n20_97, n20_98, n21_2, n21_3, n21_4, n21_5, n21_6, n22_20, m_0, m_1, m_87, m_88, m_89, m_90, m_91, m_92, m_93, m_94, m_95, m_96, m_97, m_98, p_0, p_1, p_87, p_88, p_89, p_90, p_91, p_92, p_93, p_94, p_95, p_96, p_97, p_98, gR_mmb, gN_mmb, gL_mmb, i3_add1, i3_add, i3_mul, i3_addl, i3_mull, i3_ladd, i3_lmul, i3_div4, i3_le, i3_lt, i3_eq, i3_lel, i3_lle, i3_ltl, i3_llt, i3_eql, i3_leq, i3_nl, i3_0l, i3_nn, n1_lt, n1_le, xi_i3, xin_i3, xi_lit, xin_lit, xb0, xb1, gd_t, nz4, Option.bind_some, gR_emb, gN_emb, gL_emb, ↓reduceIte, if_true, if_false, not_true_eq_false, not_false_eq_true, eq_self, Nat.not_lt_zero, Nat.zero_le, true_or, or_true, false_or, or_false, true_and, and_true, false_and, and_false, e16, bz_0]
      rw [if_neg (by omega)]
      cases eb : agB (agP C (tb 0 M)) i with
      | false => rfl
      | true =>
        rw [if_neg (by decide), ko, Bool.true_and]
        unfold J_X12_agrees_57 agP
        simp (disch := first | assumption | omega) only [l12_0_1, l12_0_4, l12_0_5, l12_0_6, l12_0_9, l12_0_10, l12_0_11, l12_0_13, l12_0_14, l12_0_15, l12_0_16, l12_0_17, l12_0_18, l12_0_19, l12_0_23, l12_0_24, l12_0_25, l12_0_27, n20_83, n20_84, n20_85, n20_86, n20_87, n20_88, n20_89, n20_90, n20_91, n20_92, n20_93, n20_94, n20_95, n20_96, n20_97, n20_98, n21_2, n21_3, n21_4, n21_5, n21_6, n22_20, m_0, m_1, m_87, m_88, m_89, m_90, m_91, m_92, m_93, m_94, m_95, m_96, m_97, m_98, p_0, p_1, p_87, p_88, p_89, p_90, p_91, p_92, p_93, p_94, p_95, p_96, p_97, p_98, gR_mmb, gN_mmb, gL_mmb, i3_add1, i3_add, i3_mul, i3_addl, i3_mull, i3_ladd, i3_lmul, i3_div4, i3_le, i3_lt, i3_eq, i3_lel, i3_lle, i3_ltl, i3_llt, i3_eql, i3_leq, i3_nl, i3_0l, i3_nn, n1_lt, n1_le, xi_i3, xin_i3, xi_lit, xin_lit, xb0, xb1, gd_t, nz4, Option.bind_some, gR_emb, gN_emb, gL_emb, ↓reduceIte, if_true, if_false, not_true_eq_false, not_false_eq_true, eq_self, Nat.not_lt_zero, Nat.zero_le, true_or, or_true, false_or, or_false, true_and, and_true, false_and, and_false, e9]
        by_cases c2 : tb 0 M 12 (i / 4) = 0
        · rw [if_pos c2, if_pos c2]
          by_cases c3 : findT (tb 0 M) (tot C) 16 i = tb 0 M 9 i
          · rw [if_neg (fun q => q c3), decide_eq_true c3]; rfl
          · rw [if_pos c3, decide_eq_false c3]; rfl
        · rw [if_neg c2, if_neg c2]
          by_cases c3 : findT (tb 0 M) (tot C) 16 i = 0
          · rw [if_neg (fun q => q c3), decide_eq_true c3]; rfl
          · rw [if_pos c3, decide_eq_false c3]; rfl
    · intro l
      show L_X12_agrees_13 fu (l + 1) 0 (bz (agB (agP C (tb 0 M)) 20)) (i3 20) (mmb X' M1) = _
      conv => lhs; unfold L_X12_agrees_13
      rw [if_pos (show (20 : Int32) ≤ i3 20 from Int32.le_refl _), bz_x, gd_t]
end
