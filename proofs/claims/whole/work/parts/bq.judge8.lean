/-! ===== the judge's calls: both sides ===== -/
section
variable {M M' M1 M3 N N' : xM} {D E S T X X' : xT} {C : xC} {R : Nat → Int32} {d fu n m i j o p q a c k l s t w K P L L' b b' B B' f e F g : Nat} {u v x y r z lo hi hh ff : Int32} {gg Bv Sv : Nat → Int32} {nt : Bool} {W A : Nat → Nat} {V : Nat → Nat → Int32} {φ : Nat → Bool}
theorem op_halves (hS : SimP C R a w n W V B M) (hf : 1100 < fu) : Both C R a w n W V B (F_X11_halves fu 0) (F_X12_halves fu 0) M := by
  obtain ⟨s1, s2, s3, s4, s5, s6, s7, s8, s9, s10, s11, s12, s13, s14, s15⟩ := id hS
  have h := s1.1
  refine op_jd hS hf (fun N D e1 e2 => ⟨i3 (halfF C R a n W V D n), tb 2 N, ?_, fun _ _ _ => rfl, fun N1 X' M' h0 h1 hE hm k1 k2 k3 k4 k5 => ⟨X', ?_, fun _ _ _ => rfl⟩⟩)
  · unfold F_X11_halves
    rw [l11_0_9 h, s1.2.2.2.1, s1.2.2.2.2.2.1]
    simp only [Option.bind_some]
    rw [e1]
    simp only [Option.bind_some]
    rw [l11_0_9 e2.1.1]
    simp only [Option.bind_some]
    rw [e2.2.2.2.1.2.1, emb_tb]
  · rw [hm]
    unfold F_X12_halves
    simp only [sI_th]
    rw [k1]
    simp only [Option.bind_some]
    exact t_halves13 h1 s2 hE k2 k3 hf
theorem tb_24 : gI N 3 0 k = tb 2 N 24 k := (tb_r (e := 2) (j := 24) (by omega)).symm
theorem op_ends (hS : SimP C R a w n W V B M) (hf : 1100 < fu) : Both C R a w n W V B (F_X11_ends fu 0) (F_X12_ends fu 0) M := by
  obtain ⟨s1, s2, s3, s4, s5, s6, s7, s8, s9, s10, s11, s12, s13, s14, s15⟩ := id hS
  have h := s1.1
  refine op_jd hS hf (fun N D e1 e2 => ?_)
  obtain ⟨K, hK1, hK2⟩ := JB_E s2 s9.2.1 e2
  refine ⟨i3 K, tb 2 N, ?_, fun _ _ _ => rfl, fun N1 X' M' h0 h1 hE hm k1 k2 k3 k4 k5 => ⟨X', ?_, fun _ _ _ => rfl⟩⟩
  · unfold F_X11_ends
    rw [l11_0_9 h, s1.2.2.2.1, s1.2.2.2.2.2.1]
    simp only [Option.bind_some]
    rw [e1]
    simp only [Option.bind_some]
    rw [l11_0_9 e2.1.1]
    simp only [Option.bind_some]
    rw [l5_0_0 e2.1.1]
    simp only [Option.bind_some]
    rw [tb_24, hK1.2.2.2.1, emb_tb]
  · rw [hm]
    unfold F_X12_ends
    simp only [sI_th]
    rw [k1]
    simp only [Option.bind_some]
    exact t_ends13 h1 s2 s9.2.1 hE k2 k3 hf hK2
theorem JB_NS (hj : JB C R a n W V D M N) : NS (tb 2 N) = NS (wkN C R a W V D n) := by
  funext p q
  have q4 := hj.2.2.2.1.2.2.2.1
  unfold NS
  rw [q4 22 p (by omega), q4 20 _ (by omega)]
theorem JB_cuts (hB : CB C) (hE : InE (tb 2 N) P K) (hj : JB C R a n W V D M N) : sumF (fun k => sfB A Bv Sv (fun a => tb 2 N 20 (k * 20 + a)) m) (tmN (tb 2 N) P) K = cnt (fun p => sfB A Bv Sv (NS (wkN C R a W V D n) p) m) P := by
  obtain ⟨t1, t2, t3⟩ := InE_t hE
  rw [sum_all t1 t2, ← JB_NS hj]
  rfl
theorem op_cuts (hS : SimP C R a w n W V B M) (hf : 1100 < fu) : Both C R a w n W V B (F_X11_cuts fu 0) (F_X12_cuts fu 0) M := by
  obtain ⟨s1, s2, s3, s4, s5, s6, s7, s8, s9, s10, ⟨m, A, Bv, Sv, c1, c2⟩, s12, s13, s14, s15⟩ := id hS
  have h := s1.1
  refine op_jd hS hf (fun N D e1 e2 => ?_)
  obtain ⟨K, hK1, hK2⟩ := JB_E s2 s9.2.1 e2
  have hSe : SeenC 0 44 45 6 m A Bv Sv N := SeenC_bs e2.1.2.2.1 (bs_20 (by omega)) (bs_20 (by omega)) (bs_22 (by omega)) (by omega) (by omega) c1
  have ef := e_fitting (fu := fu) (d := 2) (D := tb 2 N) e2.1.1 (by omega) hSe hK1 (by omega) rfl
  rw [emb_tb, JB_cuts s2 hK1 e2] at ef
  refine ⟨i3 (cnt (fun p => sfB A Bv Sv (NS (wkN C R a W V D n) p) m) (wkP C R a W V D n)), ftT (tb 2 N) (fun k => sfB A Bv Sv (fun a => tb 2 N 20 (k * 20 + a)) m) K, ?_, fun j k hj => ftT_o hj, fun N1 X' M' h0 h1 hE hm k1 k2 k3 k4 k5 => ⟨X', ?_, fun _ _ _ => rfl⟩⟩
  · unfold F_X11_cuts
    rw [l11_0_9 h, s1.2.2.2.1, s1.2.2.2.2.2.1]
    simp only [Option.bind_some]
    rw [e1]
    simp only [Option.bind_some]
    rw [l11_0_9 e2.1.1]
    simp only [Option.bind_some]
    rw [l5_0_0 e2.1.1, l11_0_8 e2.1.1]
    simp only [Option.bind_some]
    rw [ef]
    rfl
  · rw [hm]
    unfold F_X12_cuts F_X12_cutsNow
    simp only [sI_th]
    rw [k1]
    simp only [Option.bind_some]
    rw [t_cutsNow8 h1 s2 hE k2 k3 (Seen_row (fun k q1 q2 => k5 k (by omega)) c2) hf]
    rfl
theorem e_saysAt (h : Lay M) (hd : d < 5) (hE : InE D P K) (hc : 1 ≤ c) (hcP : c ≤ P) (hp : p < 20) : F_X3_saysAt fu 0 (i3 c - 1) (i3 p) (emb d D M) = some (NS D (c - 1) p, emb d D M) := by
  obtain ⟨a1, a2, a3, a4, a5, a6, a7, a8⟩ := hE
  obtain ⟨mp, m1, m2⟩ := a5 (c - 1) (by omega)
  have ec : i3 c - 1 = i3 (c - 1) := i3_sub (b := 1) hc
  unfold F_X3_saysAt F_X3_mapOf
  rw [ec]
  simp (disch := first | assumption | omega) only [l0_7, l0_8, l0_9, l0_10, l0_11, l0_12, l0_13, l0_14, l0_15, l2_0, l2_5, l2_6, l2_7, l2_8, l2_9, l2_12, l2_13, l7_4, l7_5, l7_6, l7_7, l8_0, l8_1, l8_2, l9_1, l9_2, l9_3, l9_4, l4_0_0, l4_0_1, l4_0_2, l4_0_3, l3_0_2, l3_0_3, l3_0_4, l3_0_5, l10_0_0, l1_0_1, l1_0_2, l1_0_3, l1_1_1, l1_1_2, l1_1_3, l1_2_1, l1_2_2, l1_2_3, l5_0_0, l5_0_2, l5_0_3, l5_0_4, l11_0_0, l11_0_5, l11_0_6, l11_0_7, l11_0_8, l11_0_9, l11_0_10, l11_0_11, l11_0_12, l11_0_13, l24_0_0, l24_0_1, l25_0_0, l25_0_1, l12_0_1, l12_0_4, l12_0_5, l12_0_6, l12_0_9, l12_0_10, l12_0_11, l12_0_13, l12_0_14, l12_0_15, l12_0_16, l12_0_17, l12_0_18, l12_0_19, l12_0_23, l12_0_24, l12_0_25, l12_0_27, n_a0, n_a1, n_a2, n_a3, n_a4, n_a5, n_a6, n_a7, n_a8, n_a9, n_a10, n_b0, n_b1, n_b2, n_p0, n_p1, n_p2, n_p3, n_p4, n_s0, n_s1, n_s2, n_s3, n_nm, n20_18, n20_19, n20_20, n20_21, n20_44, n20_45, n20_46, n20_47, n20_48, n20_49, n20_83, n20_84, n20_85, n20_86, n20_87, n20_88, n20_89, n20_90, n20_91, n20_92, n20_93, n20_94, n20_95, n20_96, n20_97, n20_98, n21_2, n21_3, n21_4, n21_5, n21_6, n22_6, n22_7, n22_17, n22_18, n22_19, n22_20, n23_0, n24_0, n25_0, r_a0, w_a0, r_a1, w_a1, r_a2, w_a2, r_a3, w_a3, r_a4, w_a4, r_a5, w_a5, r_a6, w_a6, r_a7, w_a7, r_a8, w_a8, r_a9, w_a9, r_a10, w_a10, r_b0, w_b0, r_b1, w_b1, r_b2, w_b2, r_d, w_d, r_c, w_c, r_e, w_e, r_t, w_t, r_f0, w_f0, r_f1, w_f1, r_f2, w_f2, r_f3, w_f3, r_e0, w_e0, r_e1, w_e1, r_e2, w_e2, r_o7, r_o8, r_o9, r_o10, r_o1, r_o5, r_o6, r_o11, r_o12, r_o21, r_o23, r_p0, r_p1, r_p2, r_s0, r_s1, r_s2, r_s3, i3_add1, i3_add, i3_mul, i3_addl, i3_mull, i3_ladd, i3_lmul, i3_div4, i3_le, i3_lt, i3_eq, i3_lel, i3_lle, i3_ltl, i3_llt, i3_eql, i3_leq, i3_nl, i3_0l, i3_nn, n1_lt, n1_le, xi_i3, xin_i3, xi_lit, xin_lit, xb0, xb1, gd_t, nz4, Option.bind_some, gR_emb, gN_emb, gL_emb, ↓reduceIte, if_true, if_false, not_true_eq_false, not_false_eq_true, eq_self, Nat.not_lt_zero, Nat.zero_le, true_or, or_true, false_or, or_false, true_and, and_true, false_and, and_false, a3, m2]
  rw [if_neg (by omega), if_neg (by omega)]
  simp (disch := first | assumption | omega) only [l0_7, l0_8, l0_9, l0_10, l0_11, l0_12, l0_13, l0_14, l0_15, l2_0, l2_5, l2_6, l2_7, l2_8, l2_9, l2_12, l2_13, l7_4, l7_5, l7_6, l7_7, l8_0, l8_1, l8_2, l9_1, l9_2, l9_3, l9_4, l4_0_0, l4_0_1, l4_0_2, l4_0_3, l3_0_2, l3_0_3, l3_0_4, l3_0_5, l10_0_0, l1_0_1, l1_0_2, l1_0_3, l1_1_1, l1_1_2, l1_1_3, l1_2_1, l1_2_2, l1_2_3, l5_0_0, l5_0_2, l5_0_3, l5_0_4, l11_0_0, l11_0_5, l11_0_6, l11_0_7, l11_0_8, l11_0_9, l11_0_10, l11_0_11, l11_0_12, l11_0_13, l24_0_0, l24_0_1, l25_0_0, l25_0_1, l12_0_1, l12_0_4, l12_0_5, l12_0_6, l12_0_9, l12_0_10, l12_0_11, l12_0_13, l12_0_14, l12_0_15, l12_0_16, l12_0_17, l12_0_18, l12_0_19, l12_0_23, l12_0_24, l12_0_25, l12_0_27, n_a0, n_a1, n_a2, n_a3, n_a4, n_a5, n_a6, n_a7, n_a8, n_a9, n_a10, n_b0, n_b1, n_b2, n_p0, n_p1, n_p2, n_p3, n_p4, n_s0, n_s1, n_s2, n_s3, n_nm, n20_18, n20_19, n20_20, n20_21, n20_44, n20_45, n20_46, n20_47, n20_48, n20_49, n20_83, n20_84, n20_85, n20_86, n20_87, n20_88, n20_89, n20_90, n20_91, n20_92, n20_93, n20_94, n20_95, n20_96, n20_97, n20_98, n21_2, n21_3, n21_4, n21_5, n21_6, n22_6, n22_7, n22_17, n22_18, n22_19, n22_20, n23_0, n24_0, n25_0, r_a0, w_a0, r_a1, w_a1, r_a2, w_a2, r_a3, w_a3, r_a4, w_a4, r_a5, w_a5, r_a6, w_a6, r_a7, w_a7, r_a8, w_a8, r_a9, w_a9, r_a10, w_a10, r_b0, w_b0, r_b1, w_b1, r_b2, w_b2, r_d, w_d, r_c, w_c, r_e, w_e, r_t, w_t, r_f0, w_f0, r_f1, w_f1, r_f2, w_f2, r_f3, w_f3, r_e0, w_e0, r_e1, w_e1, r_e2, w_e2, r_o7, r_o8, r_o9, r_o10, r_o1, r_o5, r_o6, r_o11, r_o12, r_o21, r_o23, r_p0, r_p1, r_p2, r_s0, r_s1, r_s2, r_s3, i3_add1, i3_add, i3_mul, i3_addl, i3_mull, i3_ladd, i3_lmul, i3_div4, i3_le, i3_lt, i3_eq, i3_lel, i3_lle, i3_ltl, i3_llt, i3_eql, i3_leq, i3_nl, i3_0l, i3_nn, n1_lt, n1_le, xi_i3, xin_i3, xi_lit, xin_lit, xb0, xb1, gd_t, nz4, Option.bind_some, gR_emb, gN_emb, gL_emb, ↓reduceIte, if_true, if_false, not_true_eq_false, not_false_eq_true, eq_self, Nat.not_lt_zero, Nat.zero_le, true_or, or_true, false_or, or_false, true_and, and_true, false_and, and_false, m2]
  unfold NS
  rw [m2, xi_i3 (by omega)]
theorem op_after (hS : SimP C R a w n W V B M) (hf : 1100 < fu) : Both C R a w n W V B (F_X11_after fu 0 x y z) (F_X12_after fu 0 x y z) M := by
  obtain ⟨s1, s2, s3, s4, s5, s6, s7, s8, s9, s10, s11, s12, s13, s14, s15⟩ := id hS
  have h := s1.1
  have ep := e_isPage (fu := fu) (x := y) (y := z) h s1.2.1 s3
  by_cases P : x < 1 ∨ 200 < x ∨ isPageB C y z = false
  · refine op_same (r := -2) hS ?_ (fun M1 h1 => ⟨_, ?_, FmS_0 (v := 0) s8⟩)
    · unfold F_X11_after
      by_cases c1 : x < 1
      · rw [if_pos c1]
      rw [if_neg c1]
      by_cases c2 : 200 < x
      · rw [if_pos c2]
      rw [if_neg c2, s1.2.2.2.1]
      simp only [Option.bind_some]
      rw [ep, (P.resolve_left c1).resolve_left c2]
      rfl
    · unfold F_X12_after
      simp only [sI_th]
      by_cases c1 : x < 1 ∨ 200 < x
      · rw [wi_f c1]; rfl
      rw [wi_t (fun q => c1 (Or.inl q)) (fun q => c1 (Or.inr q))]
      simp only [Option.bind_some]
      rw [if_neg (by decide), t_isPage h1 (up0_M s4) s2, (P.resolve_left (fun q => c1 (Or.inl q))).resolve_left (fun q => c1 (Or.inr q))]
      rfl
  · have c1 : ¬ x < 1 := fun q => P (Or.inl q)
    have c2 : ¬ 200 < x := fun q => P (Or.inr (Or.inl q))
    have c3 : isPageB C y z = true := by
      cases q : isPageB C y z with
      | true => rfl
      | false => exact absurd (Or.inr (Or.inr q)) P
    have c4 := s2.2.2.2.2.2
    obtain ⟨f, p, hf', hp, rfl, rfl⟩ := isPage_ex c3 s2.2.2.2.1 (fun f hf => (c4 f hf).2.2)
    have hf5 := s2.2.2.2.1
    have hp4 := (c4 f hf').2.2
    obtain ⟨c, hc, rfl⟩ := i3_of (x := x) (Int32.le_trans (by decide) (Int32.not_lt.mp c1))
    have hc1 : 1 ≤ c := by
      by_cases q : 1 ≤ c
      · exact q
      · exact absurd ((i3_lt (b := 1) hc (by omega)).mpr (by omega)) c1
    have ex : i3 f * 4 + i3 p = i3 (f * 4 + p) := by rw [show (4 : Int32) = i3 4 from rfl, i3_mul, i3_add]
    have ex2 : 4 * i3 f + i3 p = i3 (f * 4 + p) := by rw [show (4 : Int32) = i3 4 from rfl, i3_mul, i3_add, Nat.mul_comm]
    refine op_jd hS hf (fun N D e1 e2 => ?_)
    obtain ⟨K, hK1, hK2⟩ := JB_E s2 s9.2.1 e2
    have hP := hK1.1
    refine ⟨afterN C R a n W V D c (f * 4 + p), tb 2 N, ?_, fun _ _ _ => rfl, fun N1 X' M' h0 h1 hE hm k1 k2 k3 k4 k5 => ⟨X', ?_, fun _ _ _ => rfl⟩⟩
    · unfold F_X11_after
      rw [if_neg c1, if_neg c2, s1.2.2.2.1]
      simp only [Option.bind_some]
      rw [ep, c3]
      simp only [Option.bind_some]
      rw [if_pos (by decide), l11_0_9 h, s1.2.2.2.1, s1.2.2.2.2.2.1]
      simp only [Option.bind_some]
      rw [e1]
      simp only [Option.bind_some]
      rw [l11_0_9 e2.1.1]
      simp only [Option.bind_some]
      unfold F_X5_saysAfter
      rw [l5_0_0 e2.1.1]
      simp only [Option.bind_some]
      rw [tb_24, hK1.2.2.1, ex, emb_tb]
      unfold afterN
      by_cases q : c ≤ wkP C R a W V D n
      · have es := e_saysAt (fu := fu) (d := 2) (D := tb 2 N) (p := f * 4 + p) e2.1.1 (by omega) hK1 hc1 q (by omega)
        rw [emb_tb, JB_NS e2] at es
        rw [if_neg (fun z => by have := (i3_lt (by omega) hc).mp z; omega), if_pos q, es]
        rfl
      · rw [if_pos ((i3_lt (by omega) hc).mpr (by omega)), if_neg q, l5_0_4 e2.1.1]
        simp only [Option.bind_some]
        rw [n20_46 e2.1.1, xin_i3 (show f * 4 + p < 20 by omega) (by omega), gd_t, xi_i3 (by omega), e2.2.2.2.1.2.2.1 (f * 4 + p) (by omega)]
        rfl
    · have e0 := k3.1
      have h7 := k2.1 n (Nat.le_refl _)
      obtain ⟨t1, t2⟩ := t_afterIn (fu := fu) (c := c) (p := f * 4 + p) h1 s2 s9.2.1 hE k2 hc1 (by omega)
      have hN1 : F_X12_isPage fu 0 (i3 f) (i3 p) (mmb (up (tX M) 0 0 0) N1) = some (1, mmb (up (tX M) 0 0 0) N1) := by
        rw [t_isPage h0 (up0_M s4) s2, c3]; rfl
      rw [hm]
      unfold F_X12_after
      simp only [sI_th]
      rw [wi_t c1 c2]
      simp only [Option.bind_some]
      rw [if_neg (by decide), hN1]
      simp only [Option.bind_some]
      rw [if_pos (by decide), k1]
      simp only [Option.bind_some]
      rw [t_putsAll h1 k3 h7]
      simp only [Option.bind_some]
      rw [ex2]
      by_cases q : c ≤ wkP C R a W V D n
      · rw [if_pos ((i3_le hc (by omega)).mpr q), gR_mmb, l12_0_23 h1, show (3 : Int32) * i3 c = i3 (3 * c) by rw [show (3 : Int32) = i3 3 from rfl, i3_mul], t1 q]
        rfl
      · rw [if_neg (fun z => q ((i3_le hc (by omega)).mp z)), gR_mmb, gR_mmb, l12_0_14 h1]
        simp only [Option.bind_some, gN_mmb]
        rw [n20_92 h1, show xin 0 200 = true by decide, gd_t, show xi (0 : Int32) = 0 by decide, m_92, e0, l12_0_24 h1, show (3 : Int32) * i3 n = i3 (3 * n) by rw [show (3 : Int32) = i3 3 from rfl, i3_mul], t2 q]
        rfl
end
