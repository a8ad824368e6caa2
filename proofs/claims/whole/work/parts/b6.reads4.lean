/-! ===== file, block, slot: both sides ===== -/
section
variable {M M' : xM} {D E X X' : xT} {C : xC} {R Bv S : Nat → Int32} {d e fu n m i j o p q a k l s w K P L L' b B B' f : Nat} {v x y r : Int32} {W A c : Nat → Nat} {V : Nat → Nat → Int32}
/-- a small number is one of a few -/
theorem small_cases (h0 : 0 ≤ x) (h1 : x ≤ i3 m) (hm : m < 2147483648) : ∃ k, k ≤ m ∧ x = i3 k := by
  obtain ⟨k, hk, rfl⟩ := i3_of h0
  exact ⟨k, (i3_le hk hm).mp h1, rfl⟩
theorem e_isOpen (h : Lay M) (hd : d < 5) (hO : InO D) (hf : f < 5) : F_X2_isOpen fu d (i3 f) (emb d D M) = some (D 11 f, emb d D M) := by
  unfold F_X2_isOpen
  simp (disch := first | assumption | omega) only [l0_7, l0_8, l0_9, l0_10, l0_11, l0_12, l0_13, l0_14, l0_15, l2_0, l2_5, l2_6, l2_7, l2_8, l2_9, l2_12, l2_13, l7_4, l7_5, l7_6, l7_7, l8_0, l8_1, l8_2, l9_1, l9_2, l9_3, l9_4, l4_0_0, l4_0_1, l4_0_2, l4_0_3, l3_0_2, l3_0_3, l3_0_4, l3_0_5, l10_0_0, l1_0_1, l1_0_2, l1_0_3, l1_1_1, l1_1_2, l1_1_3, l1_2_1, l1_2_2, l1_2_3, l5_0_0, l5_0_2, l5_0_3, l5_0_4, l11_0_0, l11_0_5, l11_0_6, l11_0_7, l11_0_8, l11_0_9, l11_0_10, l11_0_11, l11_0_12, l11_0_13, l24_0_0, l24_0_1, l25_0_0, l25_0_1, l12_0_1, l12_0_4, l12_0_5, l12_0_6, l12_0_9, l12_0_10, l12_0_11, l12_0_13, l12_0_14, l12_0_15, l12_0_16, l12_0_17, l12_0_18, l12_0_19, l12_0_23, l12_0_24, l12_0_25, l12_0_27, n_a0, n_a1, n_a2, n_a3, n_a4, n_a5, n_a6, n_a7, n_a8, n_a9, n_a10, n_b0, n_b1, n_b2, n_p0, n_p1, n_p2, n_p3, n_p4, n_s0, n_s1, n_s2, n_s3, n_nm, n20_18, n20_19, n20_20, n20_21, n20_44, n20_45, n20_46, n20_47, n20_48, n20_49, n20_83, n20_84, n20_85, n20_86, n20_87, n20_88, n20_89, n20_90, n20_91, n20_92, n20_93, n20_94, n20_95, n20_96, n20_97, n20_98, n21_2, n21_3, n21_4, n21_5, n21_6, n22_6, n22_7, n22_17, n22_18, n22_19, n22_20, n23_0, n24_0, n25_0, r_a0, w_a0, r_a1, w_a1, r_a2, w_a2, r_a3, w_a3, r_a4, w_a4, r_a5, w_a5, r_a6, w_a6, r_a7, w_a7, r_a8, w_a8, r_a9, w_a9, r_a10, w_a10, r_b0, w_b0, r_b1, w_b1, r_b2, w_b2, r_d, w_d, r_c, w_c, r_e, w_e, r_t, w_t, r_f0, w_f0, r_f1, w_f1, r_f2, w_f2, r_f3, w_f3, r_e0, w_e0, r_e1, w_e1, r_e2, w_e2, r_o7, r_o8, r_o9, r_o10, r_o1, r_o5, r_o6, r_o11, r_o12, r_o21, r_o23, r_p0, r_p1, r_p2, r_s0, r_s1, r_s2, r_s3, i3_add1, i3_add, i3_mul, i3_addl, i3_mull, i3_ladd, i3_lmul, i3_div4, i3_le, i3_lt, i3_eq, i3_lel, i3_lle, i3_ltl, i3_llt, i3_eql, i3_leq, i3_nl, i3_0l, i3_nn, n1_lt, n1_le, xi_i3, xin_i3, xi_lit, xin_lit, xb0, xb1, gd_t, nz4, Option.bind_some, gR_emb, gN_emb, gL_emb, ↓reduceIte, if_true, if_false, not_true_eq_false, not_false_eq_true, eq_self, Nat.not_lt_zero, Nat.zero_le, true_or, or_true, false_or, or_false, true_and, and_true, false_and, and_false]
  rcases (hO.2.2 f hf).1 with q | q <;> rw [q] <;> rfl
theorem e_isOrphan (h : Lay M) (hd : d < 5) (hO : InO D) (hf : f < 5) : F_X2_isOrphan fu d (i3 f) (emb d D M) = some (D 12 f, emb d D M) := by
  unfold F_X2_isOrphan
  simp (disch := first | assumption | omega) only [l0_7, l0_8, l0_9, l0_10, l0_11, l0_12, l0_13, l0_14, l0_15, l2_0, l2_5, l2_6, l2_7, l2_8, l2_9, l2_12, l2_13, l7_4, l7_5, l7_6, l7_7, l8_0, l8_1, l8_2, l9_1, l9_2, l9_3, l9_4, l4_0_0, l4_0_1, l4_0_2, l4_0_3, l3_0_2, l3_0_3, l3_0_4, l3_0_5, l10_0_0, l1_0_1, l1_0_2, l1_0_3, l1_1_1, l1_1_2, l1_1_3, l1_2_1, l1_2_2, l1_2_3, l5_0_0, l5_0_2, l5_0_3, l5_0_4, l11_0_0, l11_0_5, l11_0_6, l11_0_7, l11_0_8, l11_0_9, l11_0_10, l11_0_11, l11_0_12, l11_0_13, l24_0_0, l24_0_1, l25_0_0, l25_0_1, l12_0_1, l12_0_4, l12_0_5, l12_0_6, l12_0_9, l12_0_10, l12_0_11, l12_0_13, l12_0_14, l12_0_15, l12_0_16, l12_0_17, l12_0_18, l12_0_19, l12_0_23, l12_0_24, l12_0_25, l12_0_27, n_a0, n_a1, n_a2, n_a3, n_a4, n_a5, n_a6, n_a7, n_a8, n_a9, n_a10, n_b0, n_b1, n_b2, n_p0, n_p1, n_p2, n_p3, n_p4, n_s0, n_s1, n_s2, n_s3, n_nm, n20_18, n20_19, n20_20, n20_21, n20_44, n20_45, n20_46, n20_47, n20_48, n20_49, n20_83, n20_84, n20_85, n20_86, n20_87, n20_88, n20_89, n20_90, n20_91, n20_92, n20_93, n20_94, n20_95, n20_96, n20_97, n20_98, n21_2, n21_3, n21_4, n21_5, n21_6, n22_6, n22_7, n22_17, n22_18, n22_19, n22_20, n23_0, n24_0, n25_0, r_a0, w_a0, r_a1, w_a1, r_a2, w_a2, r_a3, w_a3, r_a4, w_a4, r_a5, w_a5, r_a6, w_a6, r_a7, w_a7, r_a8, w_a8, r_a9, w_a9, r_a10, w_a10, r_b0, w_b0, r_b1, w_b1, r_b2, w_b2, r_d, w_d, r_c, w_c, r_e, w_e, r_t, w_t, r_f0, w_f0, r_f1, w_f1, r_f2, w_f2, r_f3, w_f3, r_e0, w_e0, r_e1, w_e1, r_e2, w_e2, r_o7, r_o8, r_o9, r_o10, r_o1, r_o5, r_o6, r_o11, r_o12, r_o21, r_o23, r_p0, r_p1, r_p2, r_s0, r_s1, r_s2, r_s3, i3_add1, i3_add, i3_mul, i3_addl, i3_mull, i3_ladd, i3_lmul, i3_div4, i3_le, i3_lt, i3_eq, i3_lel, i3_lle, i3_ltl, i3_llt, i3_eql, i3_leq, i3_nl, i3_0l, i3_nn, n1_lt, n1_le, xi_i3, xin_i3, xi_lit, xin_lit, xb0, xb1, gd_t, nz4, Option.bind_some, gR_emb, gN_emb, gL_emb, ↓reduceIte, if_true, if_false, not_true_eq_false, not_false_eq_true, eq_self, Nat.not_lt_zero, Nat.zero_le, true_or, or_true, false_or, or_false, true_and, and_true, false_and, and_false]
  rcases (hO.2.2 f hf).2.1 with q | q <;> rw [q] <;> rfl
def fileA (C : xC) (D : xT) (f : Nat) (y : Int32) : Int32 := if y = 0 then i3 (C 1 f) else if y = 1 then i3 (C 2 f) else if y = 2 then i3 (bitsN D f) else if y = 3 then (if D 11 f = 0 then 0 else 1) else if y = 4 then (if D 12 f = 0 then 0 else 1) else -1
theorem op_file (hS : SimP C R a w n W V B M) (hf : 1100 < fu) : Both C R a w n W V B (F_X11_file fu 0 x y) (F_X12_file fu 0 x y) M := by
  obtain ⟨s1, s2, s3, s4, s5, s6, ⟨L, l1, l2, l3, l4, l5, l6⟩, s8, s9, s10, s11, s12, s13, s14, s15⟩ := id hS
  have h := s1.1
  have ep := e_isFile (fu := fu) (x := x) s3
  cases hpg : isFileB C x with
  | false =>
    refine op_same (r := -1) hS ?_ (fun M1 h1 => ⟨_, ?_, FmS_0 (v := 0) s8⟩)
    · unfold F_X11_file
      rw [s1.2.2.2.1]
      simp only [Option.bind_some]
      rw [ep, hpg]
      rfl
    · unfold F_X12_file
      simp only [sI_th]
      rw [t_isFile h1 (up0_M s4) s2, hpg]
      rfl
  | true =>
    obtain ⟨f, hf', rfl⟩ := isFile_ex hpg s2.2.2.2.1
    have c5 := s2.2.2.2.1
    have hO := l2.2.2.2.2.2.2.1
    have c11 := s3.2.2.2.2.2.2.2.2.2.2.1 f hf'
    have eb := e_mappedBits (fu := fu) (M := M) (D := tb 0 M) (d := 0) h (by omega) (by omega) (show f < 5 by omega)
    have eo := e_isOpen (fu := fu) (M := M) (D := tb 0 M) (d := 0) h (by omega) hO (show f < 5 by omega)
    have er := e_isOrphan (fu := fu) (M := M) (D := tb 0 M) (d := 0) h (by omega) hO (show f < 5 by omega)
    rw [emb_tb] at eb eo er
    refine op_same (r := fileA C (tb 0 M) f y) hS ?_ (fun M1 h1 => ⟨_, ?_, FmS_0 (v := 0) s8⟩)
    · unfold F_X11_file fileA
      rw [s1.2.2.2.1]
      simp only [Option.bind_some]
      rw [ep, hpg]
      simp only [Option.bind_some, bz_0]
      rw [if_pos (by decide)]
      by_cases y0 : y = 0
      · rw [if_pos y0, if_pos y0, s1.2.2.2.1]
        have ha := s1.2.1
        simp only [Option.bind_some]
        rw [l7_4 h ha]
        simp only [Option.bind_some]
        rw [n_p0 h ha, xin_i3 (show f < 5 by omega) (by omega), gd_t, xi_i3 (by omega), c11.2.2.2.1]
      rw [if_neg y0, if_neg y0]
      by_cases y1 : y = 1
      · rw [if_pos y1, if_pos y1, s1.2.2.2.1]
        have ha := s1.2.1
        simp only [Option.bind_some]
        rw [l7_5 h ha]
        simp only [Option.bind_some]
        rw [n_p1 h ha, xin_i3 (show f < 5 by omega) (by omega), gd_t, xi_i3 (by omega), c11.2.2.2.2]
      rw [if_neg y1, if_neg y1]
      by_cases y2 : y = 2
      · rw [if_pos y2, if_pos y2, l11_0_6 h]
        simp only [Option.bind_some]
        rw [eb]
        rfl
      rw [if_neg y2, if_neg y2]
      by_cases y3 : y = 3
      · rw [if_pos y3, if_pos y3, l11_0_6 h]
        simp only [Option.bind_some]
        rw [eo]
        simp only [Option.bind_some]
        split <;> rfl
      rw [if_neg y3, if_neg y3]
      by_cases y4 : y = 4
      · rw [if_pos y4, if_pos y4, l11_0_6 h]
        simp only [Option.bind_some]
        rw [er]
        simp only [Option.bind_some]
        split <;> rfl
      rw [if_neg y4, if_neg y4]
    · unfold F_X12_file fileA
      simp only [sI_th]
      have hX := up0_Rel (v := 0) l4
      have k2 : F_X12_mappedOf fu 0 0 (i3 f) (mmb (up (tX M) 0 0 0) M1) = some (i3 (bitsN (tb 0 M) f), mmb (up (tX M) 0 0 0) M1) := t_mappedOf (b := 0) h1 (by omega) hX l2.2.2.2.2.1 (by omega) (by omega)
      have k3 : F_X12_isOpen fu 0 0 (i3 f) (mmb (up (tX M) 0 0 0) M1) = some (tb 0 M 11 f, mmb (up (tX M) 0 0 0) M1) := t_isOpen (b := 0) h1 (by omega) hX (by omega)
      have k4 : F_X12_isOrphan fu 0 0 (i3 f) (mmb (up (tX M) 0 0 0) M1) = some (tb 0 M 12 f, mmb (up (tX M) 0 0 0) M1) := t_isOrphan (b := 0) h1 (by omega) hX (by omega)
      rw [t_isFile h1 (up0_M s4) s2, hpg]
      simp only [Option.bind_some, bz_0]
      rw [if_pos (by decide), t_kindOf h1 (up0_M s4) s2 hf', t_pagesOf h1 (up0_M s4) s2 hf', k2, k3, k4]
      simp only [Option.bind_some]
      by_cases y0 : y = 0
      · rw [if_pos y0, if_pos y0]
      rw [if_neg y0, if_neg y0]
      by_cases y1 : y = 1
      · rw [if_pos y1, if_pos y1]
      rw [if_neg y1, if_neg y1]
      by_cases y2 : y = 2
      · rw [if_pos y2, if_pos y2]
      rw [if_neg y2, if_neg y2]
      by_cases y3 : y = 3
      · rw [if_pos y3, if_pos y3]
        split <;> rfl
      rw [if_neg y3, if_neg y3]
      by_cases y4 : y = 4
      · rw [if_pos y4, if_pos y4]
        split <;> rfl
      rw [if_neg y4, if_neg y4]
/-! blocks -/
theorem sub1_lt {nb n : Nat} (hb : nb < 2147483648) (hn : n < 2147483648) : (i3 nb - 1 < i3 n) ↔ i3 nb ≤ i3 n := by
  cases nb with
  | zero => exact ⟨fun _ => (i3_le (by omega) hn).mpr (Nat.zero_le _), fun _ => by
      have e : (i3 0 - 1 : Int32) = -1 := by decide
      rw [e]
      have h0 := ge0 hn
      exact Int32.lt_of_lt_of_le (by decide) h0⟩
  | succ m =>
    rw [show (i3 (m + 1) - 1 : Int32) = i3 m by rw [show (1 : Int32) = i3 1 from rfl, i3_sub (by omega)]; rfl, i3_lt (by omega) hn, i3_le hb hn]
    omega
/-- within 0 and one less than so many -/
theorem t_within {nb : Nat} (hb : nb < 2147483648) : F_X12_within fu x 0 (i3 nb - 1) M = some (bz (! decide (x < 0) && ! decide (i3 nb ≤ x)), M) := by
  unfold F_X12_within
  by_cases c0 : x < 0
  · rw [if_pos c0, decide_eq_true c0]; rfl
  · rw [if_neg c0, decide_eq_false c0]
    obtain ⟨n, hn, rfl⟩ := i3_of (Int32.not_lt.mp c0)
    by_cases c1 : i3 nb ≤ i3 n
    · rw [if_pos ((sub1_lt hb hn).mpr c1), decide_eq_true c1]; rfl
    · rw [if_neg (fun q => c1 ((sub1_lt hb hn).mp q)), decide_eq_false c1]; rfl
theorem isBlk_ex {nb : Nat} (h : isBlkB nb x = true) (hb : nb < 2147483648) : ∃ k, k < nb ∧ x = i3 k := by
  unfold isBlkB at h
  simp only [Bool.and_eq_true, Bool.not_eq_true', decide_eq_false_iff_not] at h
  obtain ⟨n, hn, rfl⟩ := i3_of (Int32.not_lt.mp h.1)
  rw [i3_le hb hn] at h
  exact ⟨n, by omega, rfl⟩
def blockA (C : xC) (D : xT) (k : Nat) (y : Int32) : Int32 := if y = 0 then i3 (eraN D (C 0 1) k (C 0 1)) else if y = 1 then i3 (liN D (C 0 1) k) else if y = 2 then i3 (diN D (C 0 1) k) else if y = 3 then D 0 k else if y = 4 then (if ¬ D 15 4 = i3 k then 0 else 1) else -1
theorem e_block (h : Lay M) (hB : CB C) (hI : Inv C L D) (hV : InV C D) (hk : k < C 0 0) (hf : 1100 < fu) : F_X11_block fu 0 (i3 k) y (emb 0 D M) = some (blockA C D k y, emb 0 (surveyT D (C 0 0) (C 0 1)) M) := by
  have h6 := hB.1
  have eb := e_isBlock (fu := fu) (M := M) (D := D) (d := 0) (x := i3 k) hI.1
  have hb : isBlkB (C 0 0) (i3 k) = true := by
    unfold isBlkB
    rw [decide_eq_false (fun q => (i3_nl (a := k) (by omega)).mp q), decide_eq_false (fun q => by have := (i3_le (by omega) (by omega)).mp q; omega)]
    rfl
  rw [hb] at eb
  have es := e_survey (fu := fu) (M := M) (D := D) (d := 0) h (by omega) hI.1 (by omega)
  have ed := e_dirtyIn (fu := fu) (M := M) (D := surveyT D (C 0 0) (C 0 1)) (d := 0) (b := k) h (by omega) (by omega)
  rw [dirty_eq hB hI.1 hV hI.2.2.2.2.2.2.2 hk] at ed
  obtain ⟨l, q1, q2, q3, -⟩ := hI.2.2.2.2.2.2.2.2 k hk
  have e1 : surveyT D (C 0 0) (C 0 1) 1 k = i3 (eraN D (C 0 1) k (C 0 1)) := by rw [surveyT_lo (by omega), q2, era_l q1 q3]
  have e10 := surv_10 hB hV hk
  have e0 : surveyT D (C 0 0) (C 0 1) 0 k = D 0 k := surveyT_lo (by omega)
  have e4 : surveyT D (C 0 0) (C 0 1) 15 4 = D 15 4 := surveyT_lo (by omega)
  unfold F_X11_block blockA
  simp only [gR_emb]
  rw [l11_0_6 h]
  simp only [Option.bind_some]
  rw [l2_0 h (by omega)]
  simp only [Option.bind_some]
  rw [eb]
  simp only [Option.bind_some, bz_0]
  rw [if_pos (by decide)]
  simp only [gR_emb]
  rw [l11_0_6 h]
  simp only [Option.bind_some]
  rw [es]
  simp only [Option.bind_some]
  by_cases y0 : y = 0
  · rw [if_pos y0, if_pos y0]
    simp (disch := first | assumption | omega) only [l0_7, l0_8, l0_9, l0_10, l0_11, l0_12, l0_13, l0_14, l0_15, l2_0, l2_5, l2_6, l2_7, l2_8, l2_9, l2_12, l2_13, l7_4, l7_5, l7_6, l7_7, l8_0, l8_1, l8_2, l9_1, l9_2, l9_3, l9_4, l4_0_0, l4_0_1, l4_0_2, l4_0_3, l3_0_2, l3_0_3, l3_0_4, l3_0_5, l10_0_0, l1_0_1, l1_0_2, l1_0_3, l1_1_1, l1_1_2, l1_1_3, l1_2_1, l1_2_2, l1_2_3, l5_0_0, l5_0_2, l5_0_3, l5_0_4, l11_0_0, l11_0_5, l11_0_6, l11_0_7, l11_0_8, l11_0_9, l11_0_10, l11_0_11, l11_0_12, l11_0_13, l24_0_0, l24_0_1, l25_0_0, l25_0_1, l12_0_1, l12_0_4, l12_0_5, l12_0_6, l12_0_9, l12_0_10, l12_0_11, l12_0_13, l12_0_14, l12_0_15, l12_0_16, l12_0_17, l12_0_18, l12_0_19, l12_0_23, l12_0_24, l12_0_25, l12_0_27, n_a0, n_a1, n_a2, n_a3, n_a4, n_a5, n_a6, n_a7, n_a8, n_a9, n_a10, n_b0, n_b1, n_b2, n_p0, n_p1, n_p2, n_p3, n_p4, n_s0, n_s1, n_s2, n_s3, n_nm, n20_18, n20_19, n20_20, n20_21, n20_44, n20_45, n20_46, n20_47, n20_48, n20_49, n20_83, n20_84, n20_85, n20_86, n20_87, n20_88, n20_89, n20_90, n20_91, n20_92, n20_93, n20_94, n20_95, n20_96, n20_97, n20_98, n21_2, n21_3, n21_4, n21_5, n21_6, n22_6, n22_7, n22_17, n22_18, n22_19, n22_20, n23_0, n24_0, n25_0, r_a0, w_a0, r_a1, w_a1, r_a2, w_a2, r_a3, w_a3, r_a4, w_a4, r_a5, w_a5, r_a6, w_a6, r_a7, w_a7, r_a8, w_a8, r_a9, w_a9, r_a10, w_a10, r_b0, w_b0, r_b1, w_b1, r_b2, w_b2, r_d, w_d, r_c, w_c, r_e, w_e, r_t, w_t, r_f0, w_f0, r_f1, w_f1, r_f2, w_f2, r_f3, w_f3, r_e0, w_e0, r_e1, w_e1, r_e2, w_e2, r_o7, r_o8, r_o9, r_o10, r_o1, r_o5, r_o6, r_o11, r_o12, r_o21, r_o23, r_p0, r_p1, r_p2, r_s0, r_s1, r_s2, r_s3, i3_add1, i3_add, i3_mul, i3_addl, i3_mull, i3_ladd, i3_lmul, i3_div4, i3_le, i3_lt, i3_eq, i3_lel, i3_lle, i3_ltl, i3_llt, i3_eql, i3_leq, i3_nl, i3_0l, i3_nn, n1_lt, n1_le, xi_i3, xin_i3, xi_lit, xin_lit, xb0, xb1, gd_t, nz4, Option.bind_some, gR_emb, gN_emb, gL_emb, ↓reduceIte, if_true, if_false, not_true_eq_false, not_false_eq_true, eq_self, Nat.not_lt_zero, Nat.zero_le, true_or, or_true, false_or, or_false, true_and, and_true, false_and, and_false, e1]
  rw [if_neg y0, if_neg y0]
  by_cases y1 : y = 1
  · rw [if_pos y1, if_pos y1]
    simp (disch := first | assumption | omega) only [l0_7, l0_8, l0_9, l0_10, l0_11, l0_12, l0_13, l0_14, l0_15, l2_0, l2_5, l2_6, l2_7, l2_8, l2_9, l2_12, l2_13, l7_4, l7_5, l7_6, l7_7, l8_0, l8_1, l8_2, l9_1, l9_2, l9_3, l9_4, l4_0_0, l4_0_1, l4_0_2, l4_0_3, l3_0_2, l3_0_3, l3_0_4, l3_0_5, l10_0_0, l1_0_1, l1_0_2, l1_0_3, l1_1_1, l1_1_2, l1_1_3, l1_2_1, l1_2_2, l1_2_3, l5_0_0, l5_0_2, l5_0_3, l5_0_4, l11_0_0, l11_0_5, l11_0_6, l11_0_7, l11_0_8, l11_0_9, l11_0_10, l11_0_11, l11_0_12, l11_0_13, l24_0_0, l24_0_1, l25_0_0, l25_0_1, l12_0_1, l12_0_4, l12_0_5, l12_0_6, l12_0_9, l12_0_10, l12_0_11, l12_0_13, l12_0_14, l12_0_15, l12_0_16, l12_0_17, l12_0_18, l12_0_19, l12_0_23, l12_0_24, l12_0_25, l12_0_27, n_a0, n_a1, n_a2, n_a3, n_a4, n_a5, n_a6, n_a7, n_a8, n_a9, n_a10, n_b0, n_b1, n_b2, n_p0, n_p1, n_p2, n_p3, n_p4, n_s0, n_s1, n_s2, n_s3, n_nm, n20_18, n20_19, n20_20, n20_21, n20_44, n20_45, n20_46, n20_47, n20_48, n20_49, n20_83, n20_84, n20_85, n20_86, n20_87, n20_88, n20_89, n20_90, n20_91, n20_92, n20_93, n20_94, n20_95, n20_96, n20_97, n20_98, n21_2, n21_3, n21_4, n21_5, n21_6, n22_6, n22_7, n22_17, n22_18, n22_19, n22_20, n23_0, n24_0, n25_0, r_a0, w_a0, r_a1, w_a1, r_a2, w_a2, r_a3, w_a3, r_a4, w_a4, r_a5, w_a5, r_a6, w_a6, r_a7, w_a7, r_a8, w_a8, r_a9, w_a9, r_a10, w_a10, r_b0, w_b0, r_b1, w_b1, r_b2, w_b2, r_d, w_d, r_c, w_c, r_e, w_e, r_t, w_t, r_f0, w_f0, r_f1, w_f1, r_f2, w_f2, r_f3, w_f3, r_e0, w_e0, r_e1, w_e1, r_e2, w_e2, r_o7, r_o8, r_o9, r_o10, r_o1, r_o5, r_o6, r_o11, r_o12, r_o21, r_o23, r_p0, r_p1, r_p2, r_s0, r_s1, r_s2, r_s3, i3_add1, i3_add, i3_mul, i3_addl, i3_mull, i3_ladd, i3_lmul, i3_div4, i3_le, i3_lt, i3_eq, i3_lel, i3_lle, i3_ltl, i3_llt, i3_eql, i3_leq, i3_nl, i3_0l, i3_nn, n1_lt, n1_le, xi_i3, xin_i3, xi_lit, xin_lit, xb0, xb1, gd_t, nz4, Option.bind_some, gR_emb, gN_emb, gL_emb, ↓reduceIte, if_true, if_false, not_true_eq_false, not_false_eq_true, eq_self, Nat.not_lt_zero, Nat.zero_le, true_or, or_true, false_or, or_false, true_and, and_true, false_and, and_false, e10]
  rw [if_neg y1, if_neg y1]
  by_cases y2 : y = 2
  · rw [if_pos y2, if_pos y2]
    simp (disch := first | assumption | omega) only [l0_7, l0_8, l0_9, l0_10, l0_11, l0_12, l0_13, l0_14, l0_15, l2_0, l2_5, l2_6, l2_7, l2_8, l2_9, l2_12, l2_13, l7_4, l7_5, l7_6, l7_7, l8_0, l8_1, l8_2, l9_1, l9_2, l9_3, l9_4, l4_0_0, l4_0_1, l4_0_2, l4_0_3, l3_0_2, l3_0_3, l3_0_4, l3_0_5, l10_0_0, l1_0_1, l1_0_2, l1_0_3, l1_1_1, l1_1_2, l1_1_3, l1_2_1, l1_2_2, l1_2_3, l5_0_0, l5_0_2, l5_0_3, l5_0_4, l11_0_0, l11_0_5, l11_0_6, l11_0_7, l11_0_8, l11_0_9, l11_0_10, l11_0_11, l11_0_12, l11_0_13, l24_0_0, l24_0_1, l25_0_0, l25_0_1, l12_0_1, l12_0_4, l12_0_5, l12_0_6, l12_0_9, l12_0_10, l12_0_11, l12_0_13, l12_0_14, l12_0_15, l12_0_16, l12_0_17, l12_0_18, l12_0_19, l12_0_23, l12_0_24, l12_0_25, l12_0_27, n_a0, n_a1, n_a2, n_a3, n_a4, n_a5, n_a6, n_a7, n_a8, n_a9, n_a10, n_b0, n_b1, n_b2, n_p0, n_p1, n_p2, n_p3, n_p4, n_s0, n_s1, n_s2, n_s3, n_nm, n20_18, n20_19, n20_20, n20_21, n20_44, n20_45, n20_46, n20_47, n20_48, n20_49, n20_83, n20_84, n20_85, n20_86, n20_87, n20_88, n20_89, n20_90, n20_91, n20_92, n20_93, n20_94, n20_95, n20_96, n20_97, n20_98, n21_2, n21_3, n21_4, n21_5, n21_6, n22_6, n22_7, n22_17, n22_18, n22_19, n22_20, n23_0, n24_0, n25_0, r_a0, w_a0, r_a1, w_a1, r_a2, w_a2, r_a3, w_a3, r_a4, w_a4, r_a5, w_a5, r_a6, w_a6, r_a7, w_a7, r_a8, w_a8, r_a9, w_a9, r_a10, w_a10, r_b0, w_b0, r_b1, w_b1, r_b2, w_b2, r_d, w_d, r_c, w_c, r_e, w_e, r_t, w_t, r_f0, w_f0, r_f1, w_f1, r_f2, w_f2, r_f3, w_f3, r_e0, w_e0, r_e1, w_e1, r_e2, w_e2, r_o7, r_o8, r_o9, r_o10, r_o1, r_o5, r_o6, r_o11, r_o12, r_o21, r_o23, r_p0, r_p1, r_p2, r_s0, r_s1, r_s2, r_s3, i3_add1, i3_add, i3_mul, i3_addl, i3_mull, i3_ladd, i3_lmul, i3_div4, i3_le, i3_lt, i3_eq, i3_lel, i3_lle, i3_ltl, i3_llt, i3_eql, i3_leq, i3_nl, i3_0l, i3_nn, n1_lt, n1_le, xi_i3, xin_i3, xi_lit, xin_lit, xb0, xb1, gd_t, nz4, Option.bind_some, gR_emb, gN_emb, gL_emb, ↓reduceIte, if_true, if_false, not_true_eq_false, not_false_eq_true, eq_self, Nat.not_lt_zero, Nat.zero_le, true_or, or_true, false_or, or_false, true_and, and_true, false_and, and_false, ed]
  rw [if_neg y2, if_neg y2]
  by_cases y3 : y = 3
  · rw [if_pos y3, if_pos y3]
    simp (disch := first | assumption | omega) only [l0_7, l0_8, l0_9, l0_10, l0_11, l0_12, l0_13, l0_14, l0_15, l2_0, l2_5, l2_6, l2_7, l2_8, l2_9, l2_12, l2_13, l7_4, l7_5, l7_6, l7_7, l8_0, l8_1, l8_2, l9_1, l9_2, l9_3, l9_4, l4_0_0, l4_0_1, l4_0_2, l4_0_3, l3_0_2, l3_0_3, l3_0_4, l3_0_5, l10_0_0, l1_0_1, l1_0_2, l1_0_3, l1_1_1, l1_1_2, l1_1_3, l1_2_1, l1_2_2, l1_2_3, l5_0_0, l5_0_2, l5_0_3, l5_0_4, l11_0_0, l11_0_5, l11_0_6, l11_0_7, l11_0_8, l11_0_9, l11_0_10, l11_0_11, l11_0_12, l11_0_13, l24_0_0, l24_0_1, l25_0_0, l25_0_1, l12_0_1, l12_0_4, l12_0_5, l12_0_6, l12_0_9, l12_0_10, l12_0_11, l12_0_13, l12_0_14, l12_0_15, l12_0_16, l12_0_17, l12_0_18, l12_0_19, l12_0_23, l12_0_24, l12_0_25, l12_0_27, n_a0, n_a1, n_a2, n_a3, n_a4, n_a5, n_a6, n_a7, n_a8, n_a9, n_a10, n_b0, n_b1, n_b2, n_p0, n_p1, n_p2, n_p3, n_p4, n_s0, n_s1, n_s2, n_s3, n_nm, n20_18, n20_19, n20_20, n20_21, n20_44, n20_45, n20_46, n20_47, n20_48, n20_49, n20_83, n20_84, n20_85, n20_86, n20_87, n20_88, n20_89, n20_90, n20_91, n20_92, n20_93, n20_94, n20_95, n20_96, n20_97, n20_98, n21_2, n21_3, n21_4, n21_5, n21_6, n22_6, n22_7, n22_17, n22_18, n22_19, n22_20, n23_0, n24_0, n25_0, r_a0, w_a0, r_a1, w_a1, r_a2, w_a2, r_a3, w_a3, r_a4, w_a4, r_a5, w_a5, r_a6, w_a6, r_a7, w_a7, r_a8, w_a8, r_a9, w_a9, r_a10, w_a10, r_b0, w_b0, r_b1, w_b1, r_b2, w_b2, r_d, w_d, r_c, w_c, r_e, w_e, r_t, w_t, r_f0, w_f0, r_f1, w_f1, r_f2, w_f2, r_f3, w_f3, r_e0, w_e0, r_e1, w_e1, r_e2, w_e2, r_o7, r_o8, r_o9, r_o10, r_o1, r_o5, r_o6, r_o11, r_o12, r_o21, r_o23, r_p0, r_p1, r_p2, r_s0, r_s1, r_s2, r_s3, i3_add1, i3_add, i3_mul, i3_addl, i3_mull, i3_ladd, i3_lmul, i3_div4, i3_le, i3_lt, i3_eq, i3_lel, i3_lle, i3_ltl, i3_llt, i3_eql, i3_leq, i3_nl, i3_0l, i3_nn, n1_lt, n1_le, xi_i3, xin_i3, xi_lit, xin_lit, xb0, xb1, gd_t, nz4, Option.bind_some, gR_emb, gN_emb, gL_emb, ↓reduceIte, if_true, if_false, not_true_eq_false, not_false_eq_true, eq_self, Nat.not_lt_zero, Nat.zero_le, true_or, or_true, false_or, or_false, true_and, and_true, false_and, and_false, e0]
  rw [if_neg y3, if_neg y3]
  by_cases y4 : y = 4
  · rw [if_pos y4, if_pos y4]
    simp (disch := first | assumption | omega) only [l0_7, l0_8, l0_9, l0_10, l0_11, l0_12, l0_13, l0_14, l0_15, l2_0, l2_5, l2_6, l2_7, l2_8, l2_9, l2_12, l2_13, l7_4, l7_5, l7_6, l7_7, l8_0, l8_1, l8_2, l9_1, l9_2, l9_3, l9_4, l4_0_0, l4_0_1, l4_0_2, l4_0_3, l3_0_2, l3_0_3, l3_0_4, l3_0_5, l10_0_0, l1_0_1, l1_0_2, l1_0_3, l1_1_1, l1_1_2, l1_1_3, l1_2_1, l1_2_2, l1_2_3, l5_0_0, l5_0_2, l5_0_3, l5_0_4, l11_0_0, l11_0_5, l11_0_6, l11_0_7, l11_0_8, l11_0_9, l11_0_10, l11_0_11, l11_0_12, l11_0_13, l24_0_0, l24_0_1, l25_0_0, l25_0_1, l12_0_1, l12_0_4, l12_0_5, l12_0_6, l12_0_9, l12_0_10, l12_0_11, l12_0_13, l12_0_14, l12_0_15, l12_0_16, l12_0_17, l12_0_18, l12_0_19, l12_0_23, l12_0_24, l12_0_25, l12_0_27, n_a0, n_a1, n_a2, n_a3, n_a4, n_a5, n_a6, n_a7, n_a8, n_a9, n_a10, n_b0, n_b1, n_b2, n_p0, n_p1, n_p2, n_p3, n_p4, n_s0, n_s1, n_s2, n_s3, n_nm, n20_18, n20_19, n20_20, n20_21, n20_44, n20_45, n20_46, n20_47, n20_48, n20_49, n20_83, n20_84, n20_85, n20_86, n20_87, n20_88, n20_89, n20_90, n20_91, n20_92, n20_93, n20_94, n20_95, n20_96, n20_97, n20_98, n21_2, n21_3, n21_4, n21_5, n21_6, n22_6, n22_7, n22_17, n22_18, n22_19, n22_20, n23_0, n24_0, n25_0, r_a0, w_a0, r_a1, w_a1, r_a2, w_a2, r_a3, w_a3, r_a4, w_a4, r_a5, w_a5, r_a6, w_a6, r_a7, w_a7, r_a8, w_a8, r_a9, w_a9, r_a10, w_a10, r_b0, w_b0, r_b1, w_b1, r_b2, w_b2, r_d, w_d, r_c, w_c, r_e, w_e, r_t, w_t, r_f0, w_f0, r_f1, w_f1, r_f2, w_f2, r_f3, w_f3, r_e0, w_e0, r_e1, w_e1, r_e2, w_e2, r_o7, r_o8, r_o9, r_o10, r_o1, r_o5, r_o6, r_o11, r_o12, r_o21, r_o23, r_p0, r_p1, r_p2, r_s0, r_s1, r_s2, r_s3, i3_add1, i3_add, i3_mul, i3_addl, i3_mull, i3_ladd, i3_lmul, i3_div4, i3_le, i3_lt, i3_eq, i3_lel, i3_lle, i3_ltl, i3_llt, i3_eql, i3_leq, i3_nl, i3_0l, i3_nn, n1_lt, n1_le, xi_i3, xin_i3, xi_lit, xin_lit, xb0, xb1, gd_t, nz4, Option.bind_some, gR_emb, gN_emb, gL_emb, ↓reduceIte, if_true, if_false, not_true_eq_false, not_false_eq_true, eq_self, Nat.not_lt_zero, Nat.zero_le, true_or, or_true, false_or, or_false, true_and, and_true, false_and, and_false, e4]
    split <;> rfl
  rw [if_neg y4, if_neg y4]
theorem t_block (h : Lay M) (hM : MCfg C X) (hB : CB C) (hR : Rel C 0 D X) (hI : Inv C L D) (hV : InV C D) (hLk : X 0 22 = i3 0 → Lk D X) (hk : k < C 0 0) (hf : 1100 < fu) :
    ∃ X', F_X12_block fu 0 (i3 k) y (mmb X M) = some (blockA C D k y, mmb X' M) ∧ Gd C 0 D (up X 0 0 0) X' := by
  have h6 := hB.1
  have h36 := tot36 hB
  have hBk := blk (nw := C 0 1) hk
  have hT : tot C = C 0 0 * C 0 1 := rfl
  have hM0 := up0_M (v := 0) hM
  have hX := up0_Rel (v := 0) hR
  have hL0 := up0_Lk (v := 0) hLk
  have hb : (! decide (i3 k < 0) && ! decide (i3 (C 0 0) ≤ i3 k)) = true := by
    rw [decide_eq_false (fun q => (i3_nl (a := k) (by omega)).mp q), decide_eq_false (fun q => by have := (i3_le (by omega) (by omega)).mp q; omega)]
    rfl
  have tt := fun w (hw : w < 3) => t_tally (fu := fu) (M := M) (X := up X 0 0 0) (f := k * C 0 1) (m := C 0 1) (w := w) h hM0 (show 0 ≤ 2140 by omega) hB hX hI.2.1 hI.2.2.1 hI.2.2.2.1 hI.2.2.2.2.2.1 hL0 (by omega) (by omega) hw
  unfold F_X12_block
  simp only [sI_th]
  rw [t_blocks h hM0]
  simp only [Option.bind_some]
  rw [t_within (by omega), hb]
  simp only [Option.bind_some, bz_0]
  rw [if_neg (by decide)]
  have hw4 : F_X12_within fu y 0 4 (mmb (up X 0 0 0) M) = some (bz (! decide (y < 0) && ! decide (i3 5 ≤ y)), mmb (up X 0 0 0) M) := t_within (nb := 5) (by omega)
  rw [hw4]
  simp only [Option.bind_some, bz_0]
  cases hy : (! decide (y < 0) && ! decide (i3 5 ≤ y)) with
  | false =>
    rw [if_neg (by decide)]
    refine ⟨_, ?_, Or.inl rfl⟩
    have : blockA C D k y = -1 := by
      unfold blockA
      rw [if_neg (fun q => by rw [q] at hy; exact absurd hy (by decide)), if_neg (fun q => by rw [q] at hy; exact absurd hy (by decide)), if_neg (fun q => by rw [q] at hy; exact absurd hy (by decide)), if_neg (fun q => by rw [q] at hy; exact absurd hy (by decide)), if_neg (fun q => by rw [q] at hy; exact absurd hy (by decide))]
    rw [this]
  | true =>
    obtain ⟨w, hw, rfl⟩ := isBlk_ex (nb := 5) (x := y) hy (by omega)
    rw [if_pos (by decide)]
    rcases (show w < 3 ∨ w = 3 ∨ w = 4 by omega) with q | rfl | rfl
    · rw [if_neg (fun q => by have := (i3_le (a := 3) (by omega) (by omega)).mp q; omega), t_wide h hM0]
      simp only [Option.bind_some]
      rw [t_wide h hM0]
      simp only [Option.bind_some]
      have t1 := tt w q
      rw [i3_mul, Nat.mul_comm, show F_X12_tally fu 0 0 (i3 (k * C 0 1)) (i3 (C 0 1)) (i3 w) (mmb (up X 0 0 0) M) = _ from t1]
      simp only [Option.bind_some]
      refine ⟨_, ?_, Or.inr rfl⟩
      have : blockA C D k (i3 w) = i3 (cnt (fun i => tlB D w (k * C 0 1 + i)) (C 0 1)) := by
        rcases (show w = 0 ∨ w = 1 ∨ w = 2 by omega) with rfl | rfl | rfl
        · rfl
        · rfl
        · rfl
      rw [this]
    · have e8 : up X 0 0 0 95 (8 + k) = D 0 k := by
        have := hX.2.2.2.2.2.2.2.1 k (by omega)
        rw [Nat.zero_add] at this
        exact this
      rw [if_pos (by decide), if_neg (by decide)]
      refine ⟨up X 0 0 0, ?_, Or.inl rfl⟩
      simp (disch := first | assumption | omega) only [l12_0_1, l12_0_4, l12_0_5, l12_0_6, l12_0_9, l12_0_10, l12_0_11, l12_0_13, l12_0_14, l12_0_15, l12_0_16, l12_0_17, l12_0_18, l12_0_19, l12_0_23, l12_0_24, l12_0_25, l12_0_27, n20_83, n20_84, n20_85, n20_86, n20_87, n20_88, n20_89, n20_90, n20_91, n20_92, n20_93, n20_94, n20_95, n20_96, n20_97, n20_98, n21_2, n21_3, n21_4, n21_5, n21_6, n22_20, m_0, m_1, m_87, m_88, m_89, m_90, m_91, m_92, m_93, m_94, m_95, m_96, m_97, m_98, p_0, p_1, p_87, p_88, p_89, p_90, p_91, p_92, p_93, p_94, p_95, p_96, p_97, p_98, gR_mmb, gN_mmb, gL_mmb, i3_add1, i3_add, i3_mul, i3_addl, i3_mull, i3_ladd, i3_lmul, i3_div4, i3_le, i3_lt, i3_eq, i3_lel, i3_lle, i3_ltl, i3_llt, i3_eql, i3_leq, i3_nl, i3_0l, i3_nn, n1_lt, n1_le, xi_i3, xin_i3, xi_lit, xin_lit, xb0, xb1, gd_t, nz4, Option.bind_some, gR_emb, gN_emb, gL_emb, ↓reduceIte, if_true, if_false, not_true_eq_false, not_false_eq_true, eq_self, Nat.not_lt_zero, Nat.zero_le, true_or, or_true, false_or, or_false, true_and, and_true, false_and, and_false, e8]
      rfl
    · have e1 : up X 0 0 0 95 1 = D 15 4 := by
        have := hX.2.1
        rw [Nat.zero_add] at this
        exact this
      rw [if_pos (by decide), if_pos (by decide)]
      refine ⟨up X 0 0 0, ?_, Or.inl rfl⟩
      have e5 : blockA C D k (i3 4) = if ¬ D 15 4 = i3 k then 0 else 1 := by
        unfold blockA
        rw [if_neg (by decide), if_neg (by decide), if_neg (by decide), if_neg (by decide), if_pos (by decide)]
      rw [e5]
      simp (disch := first | assumption | omega) only [l12_0_1, l12_0_4, l12_0_5, l12_0_6, l12_0_9, l12_0_10, l12_0_11, l12_0_13, l12_0_14, l12_0_15, l12_0_16, l12_0_17, l12_0_18, l12_0_19, l12_0_23, l12_0_24, l12_0_25, l12_0_27, n20_83, n20_84, n20_85, n20_86, n20_87, n20_88, n20_89, n20_90, n20_91, n20_92, n20_93, n20_94, n20_95, n20_96, n20_97, n20_98, n21_2, n21_3, n21_4, n21_5, n21_6, n22_20, m_0, m_1, m_87, m_88, m_89, m_90, m_91, m_92, m_93, m_94, m_95, m_96, m_97, m_98, p_0, p_1, p_87, p_88, p_89, p_90, p_91, p_92, p_93, p_94, p_95, p_96, p_97, p_98, gR_mmb, gN_mmb, gL_mmb, i3_add1, i3_add, i3_mul, i3_addl, i3_mull, i3_ladd, i3_lmul, i3_div4, i3_le, i3_lt, i3_eq, i3_lel, i3_lle, i3_ltl, i3_llt, i3_eql, i3_leq, i3_nl, i3_0l, i3_nn, n1_lt, n1_le, xi_i3, xin_i3, xi_lit, xin_lit, xb0, xb1, gd_t, nz4, Option.bind_some, gR_emb, gN_emb, gL_emb, ↓reduceIte, if_true, if_false, not_true_eq_false, not_false_eq_true, eq_self, Nat.not_lt_zero, Nat.zero_le, true_or, or_true, false_or, or_false, true_and, and_true, false_and, and_false, e1]
      split <;> rfl
theorem op_block (hS : SimP C R a w n W V B M) (hf : 1100 < fu) : Both C R a w n W V B (F_X11_block fu 0 x y) (F_X12_block fu 0 x y) M := by
  obtain ⟨s1, s2, s3, s4, s5, s6, ⟨L, l1, l2, l3, l4, l5, l6⟩, s8, s9, s10, s11, s12, s13, s14, s15⟩ := id hS
  have h := s1.1
  have h6 := s2.1
  cases hb : isBlkB (C 0 0) x with
  | false =>
    have eb := e_isBlock (fu := fu) (M := M) (D := tb 0 M) (d := 0) (x := x) l2.1
    rw [emb_tb, hb] at eb
    refine op_same (r := -1) hS ?_ (fun M1 h1 => ⟨_, ?_, FmS_0 (v := 0) s8⟩)
    · unfold F_X11_block
      rw [l11_0_6 h]
      simp only [Option.bind_some]
      rw [l2_0 h (by omega)]
      simp only [Option.bind_some]
      rw [eb]
      rfl
    · unfold F_X12_block
      simp only [sI_th]
      rw [t_blocks h1 (up0_M s4)]
      simp only [Option.bind_some]
      rw [t_within (by omega), show (! decide (x < 0) && ! decide (i3 (C 0 0) ≤ x)) = false from hb]
      rfl
  | true =>
    obtain ⟨k, hk, rfl⟩ := isBlk_ex hb (by omega)
    have ew := e_block (fu := fu) (M := M) (D := tb 0 M) (y := y) h s2 l2 l3 hk hf
    rw [emb_tb] at ew
    refine op_read hS ew Sv_survey (InV_survey s2 l3) KE_survey (fun M1 h1 => ?_)
    obtain ⟨X', k1, k2⟩ := t_block (fu := fu) (M := M1) (X := tX M) (y := y) h1 s4 s2 l4 l2 l3 s8 hk hf
    exact ⟨X', k1, FmS_gd s8 k2⟩
end
