/-! ===== oldest, lives, hot: both sides ===== -/
section
variable {M M' : xM} {D E X X' : xT} {C : xC} {R Bv S : Nat → Int32} {d e fu n m i j o p q a k l s t w K P L L' b B B' f : Nat} {v x y r : Int32} {W A c : Nat → Nat} {V : Nat → Nat → Int32}
theorem e_below (h : Lay M) (hO : Ok (C 0 0) (C 0 1) E) (hN : InN C D) (h13 : ∀ s, s < tot C → E 13 s = bz (liveB D s)) (h3 : ∀ s, E 3 s = D 3 s) (hs : s < tot C) (hl : liveB D s = true) (hf : 1100 < fu) :
    F_X2_liveBelow fu 0 (D 3 s) (emb 0 E M) = some (i3 (rkN C D s), emb 0 E M) := by
  have h36 : tot C ≤ 36 := mul36 hO.1 hO.2.1
  have o5 : E 15 2 = i3 (tot C) := hO.2.2.2.2.1
  have hs3 := (node_seq (hN s hs) (live_isN hl)).1
  unfold F_X2_liveBelow
  refine lpc (fun l i z => L_X2_liveBelow_4 fu l 0 (D 3 s) z (i3 i) (emb 0 E M)) (fun i => i3 (cnt (fun o => liveB D o && decide (sq D o < sq D s)) i)) (tot C) _ ?_ ?_ fu 0 (by omega) (by omega)
  · intro l i hi
    show L_X2_liveBelow_4 fu (l + 1) 0 (D 3 s) (i3 (cnt (fun o => liveB D o && decide (sq D o < sq D s)) i)) (i3 i) (emb 0 E M) = L_X2_liveBelow_4 fu l 0 (D 3 s) (i3 (cnt (fun o => liveB D o && decide (sq D o < sq D s)) (i + 1))) (i3 (i + 1)) (emb 0 E M)
    have e13 := h13 i hi
    have e3 := h3 i
    rw [cnt_s]
    conv => lhs; unfold L_X2_liveBelow_4
    simp (disch := first | assumption | omega) only [l0_7, l0_8, l0_9, l0_10, l0_11, l0_12, l0_13, l0_14, l0_15, l2_0, l2_5, l2_6, l2_7, l2_8, l2_9, l2_12, l2_13, l7_4, l7_5, l7_6, l7_7, l8_0, l8_1, l8_2, l9_1, l9_2, l9_3, l9_4, l4_0_0, l4_0_1, l4_0_2, l4_0_3, l3_0_2, l3_0_3, l3_0_4, l3_0_5, l10_0_0, l1_0_1, l1_0_2, l1_0_3, l1_1_1, l1_1_2, l1_1_3, l1_2_1, l1_2_2, l1_2_3, l5_0_0, l5_0_2, l5_0_3, l5_0_4, l11_0_0, l11_0_5, l11_0_6, l11_0_7, l11_0_8, l11_0_9, l11_0_10, l11_0_11, l11_0_12, l11_0_13, l24_0_0, l24_0_1, l25_0_0, l25_0_1, l12_0_1, l12_0_4, l12_0_5, l12_0_6, l12_0_9, l12_0_10, l12_0_11, l12_0_13, l12_0_14, l12_0_15, l12_0_16, l12_0_17, l12_0_18, l12_0_19, l12_0_23, l12_0_24, l12_0_25, l12_0_27, n_a0, n_a1, n_a2, n_a3, n_a4, n_a5, n_a6, n_a7, n_a8, n_a9, n_a10, n_b0, n_b1, n_b2, n_p0, n_p1, n_p2, n_p3, n_p4, n_s0, n_s1, n_s2, n_s3, n_nm, n20_18, n20_19, n20_20, n20_21, n20_44, n20_45, n20_46, n20_47, n20_48, n20_49, n20_83, n20_84, n20_85, n20_86, n20_87, n20_88, n20_89, n20_90, n20_91, n20_92, n20_93, n20_94, n20_95, n20_96, n20_97, n20_98, n21_2, n21_3, n21_4, n21_5, n21_6, n22_6, n22_7, n22_17, n22_18, n22_19, n22_20, n23_0, n24_0, n25_0, r_a0, w_a0, r_a1, w_a1, r_a2, w_a2, r_a3, w_a3, r_a4, w_a4, r_a5, w_a5, r_a6, w_a6, r_a7, w_a7, r_a8, w_a8, r_a9, w_a9, r_a10, w_a10, r_b0, w_b0, r_b1, w_b1, r_b2, w_b2, r_d, w_d, r_c, w_c, r_e, w_e, r_t, w_t, r_f0, w_f0, r_f1, w_f1, r_f2, w_f2, r_f3, w_f3, r_e0, w_e0, r_e1, w_e1, r_e2, w_e2, r_o7, r_o8, r_o9, r_o10, r_o1, r_o5, r_o6, r_o11, r_o12, r_o21, r_o23, r_p0, r_p1, r_p2, r_s0, r_s1, r_s2, r_s3, i3_add1, i3_add, i3_mul, i3_addl, i3_mull, i3_ladd, i3_lmul, i3_div4, i3_le, i3_lt, i3_eq, i3_lel, i3_lle, i3_ltl, i3_llt, i3_eql, i3_leq, i3_nl, i3_0l, i3_nn, n1_lt, n1_le, xi_i3, xin_i3, xi_lit, xin_lit, xb0, xb1, gd_t, nz4, Option.bind_some, gR_emb, gN_emb, gL_emb, ↓reduceIte, if_true, if_false, not_true_eq_false, not_false_eq_true, eq_self, Nat.not_lt_zero, Nat.zero_le, true_or, or_true, false_or, or_false, true_and, and_true, false_and, and_false, o5, e13, e3, bz_0]
    rw [if_neg (by omega)]
    cases e : liveB D i with
    | false => rw [if_pos rfl, Bool.false_and, if_neg (by decide)]
    | true =>
      have hi3 := (node_seq (hN i hi) (live_isN e)).1
      rw [if_neg (by decide), Bool.true_and, hs3, hi3]
      have q1 : sq D s < 2147483648 := xi_lt _
      have q2 : sq D i < 2147483648 := xi_lt _
      by_cases c : sq D i < sq D s
      · rw [if_neg (fun q => by have := (i3_le q1 q2).mp q; omega), decide_eq_true c, if_pos rfl]
      · rw [if_pos ((i3_le q1 q2).mpr (by omega)), decide_eq_false c, if_neg (by decide)]
  · intro l
    show L_X2_liveBelow_4 fu (l + 1) 0 (D 3 s) (i3 (cnt (fun o => liveB D o && decide (sq D o < sq D s)) (tot C))) (i3 (tot C)) (emb 0 E M) = _
    conv => lhs; unfold L_X2_liveBelow_4
    simp (disch := first | assumption | omega) only [l0_7, l0_8, l0_9, l0_10, l0_11, l0_12, l0_13, l0_14, l0_15, l2_0, l2_5, l2_6, l2_7, l2_8, l2_9, l2_12, l2_13, l7_4, l7_5, l7_6, l7_7, l8_0, l8_1, l8_2, l9_1, l9_2, l9_3, l9_4, l4_0_0, l4_0_1, l4_0_2, l4_0_3, l3_0_2, l3_0_3, l3_0_4, l3_0_5, l10_0_0, l1_0_1, l1_0_2, l1_0_3, l1_1_1, l1_1_2, l1_1_3, l1_2_1, l1_2_2, l1_2_3, l5_0_0, l5_0_2, l5_0_3, l5_0_4, l11_0_0, l11_0_5, l11_0_6, l11_0_7, l11_0_8, l11_0_9, l11_0_10, l11_0_11, l11_0_12, l11_0_13, l24_0_0, l24_0_1, l25_0_0, l25_0_1, l12_0_1, l12_0_4, l12_0_5, l12_0_6, l12_0_9, l12_0_10, l12_0_11, l12_0_13, l12_0_14, l12_0_15, l12_0_16, l12_0_17, l12_0_18, l12_0_19, l12_0_23, l12_0_24, l12_0_25, l12_0_27, n_a0, n_a1, n_a2, n_a3, n_a4, n_a5, n_a6, n_a7, n_a8, n_a9, n_a10, n_b0, n_b1, n_b2, n_p0, n_p1, n_p2, n_p3, n_p4, n_s0, n_s1, n_s2, n_s3, n_nm, n20_18, n20_19, n20_20, n20_21, n20_44, n20_45, n20_46, n20_47, n20_48, n20_49, n20_83, n20_84, n20_85, n20_86, n20_87, n20_88, n20_89, n20_90, n20_91, n20_92, n20_93, n20_94, n20_95, n20_96, n20_97, n20_98, n21_2, n21_3, n21_4, n21_5, n21_6, n22_6, n22_7, n22_17, n22_18, n22_19, n22_20, n23_0, n24_0, n25_0, r_a0, w_a0, r_a1, w_a1, r_a2, w_a2, r_a3, w_a3, r_a4, w_a4, r_a5, w_a5, r_a6, w_a6, r_a7, w_a7, r_a8, w_a8, r_a9, w_a9, r_a10, w_a10, r_b0, w_b0, r_b1, w_b1, r_b2, w_b2, r_d, w_d, r_c, w_c, r_e, w_e, r_t, w_t, r_f0, w_f0, r_f1, w_f1, r_f2, w_f2, r_f3, w_f3, r_e0, w_e0, r_e1, w_e1, r_e2, w_e2, r_o7, r_o8, r_o9, r_o10, r_o1, r_o5, r_o6, r_o11, r_o12, r_o21, r_o23, r_p0, r_p1, r_p2, r_s0, r_s1, r_s2, r_s3, i3_add1, i3_add, i3_mul, i3_addl, i3_mull, i3_ladd, i3_lmul, i3_div4, i3_le, i3_lt, i3_eq, i3_lel, i3_lle, i3_ltl, i3_llt, i3_eql, i3_leq, i3_nl, i3_0l, i3_nn, n1_lt, n1_le, xi_i3, xin_i3, xi_lit, xin_lit, xb0, xb1, gd_t, nz4, Option.bind_some, gR_emb, gN_emb, gL_emb, ↓reduceIte, if_true, if_false, not_true_eq_false, not_false_eq_true, eq_self, Nat.not_lt_zero, Nat.zero_le, true_or, or_true, false_or, or_false, true_and, and_true, false_and, and_false, o5]
    rw [if_pos (Nat.le_refl _)]
    rfl
/-- the slot of the x-th, by the class -/
def slX (C : xC) (D : xT) (x : Int32) : Option Nat := lst (fun s => liveB D s && decide (i3 (rkN C D s) = x)) (tot C)
theorem slX_i3 (hi : i < 2147483648) (hB : CB C) : slX C D (i3 i) = slL C D i := by
  have h36 := tot36 hB
  unfold slX slL
  congr 1
  funext s
  have := cnt_le (fun o => liveB D o && decide (sq D o < sq D s)) (tot C)
  have hr : rkN C D s < 2147483648 := by unfold rkN; omega
  congr 1
  exact decide_eq_decide.mpr (i3_eq hr hi)
theorem slX_neg (h : x < 0) (hB : CB C) : slX C D x = none := by
  have h36 := tot36 hB
  refine lst_none.mpr (fun s hs => ?_)
  have := cnt_le (fun o => liveB D o && decide (sq D o < sq D s)) (tot C)
  have hr : rkN C D s < 2147483648 := by unfold rkN; omega
  rw [decide_eq_false (fun q => by rw [← q] at h; exact (i3_nl hr).mp h), Bool.and_false]
theorem e_slotOfLive (h : Lay M) (hB : CB C) (hI : Inv C L D) (hV : InV C D) (hf : 1100 < fu) : F_X2_slotOfLive fu 0 x (emb 0 D M) = some (on (slX C D x), emb 0 (surveyT D (C 0 0) (C 0 1)) M) := by
  have h36 := tot36 hB
  have es := e_survey (fu := fu) (M := M) (D := D) (d := 0) h (by omega) hI.1 (by omega)
  have hO := (Okd_survey (d := 3) (nb := C 0 0) (nw := C 0 1) (Okd3 hI)).1
  have o5 : surveyT D (C 0 0) (C 0 1) 15 2 = i3 (tot C) := hO.2.2.2.2.1
  have h13 : ∀ s, s < tot C → surveyT D (C 0 0) (C 0 1) 13 s = bz (liveB D s) := fun s hs => by
    have := (survT_ok hB hV).2.2.1 s hs
    rw [live_surv] at this
    exact this
  have h3 : ∀ s, surveyT D (C 0 0) (C 0 1) 3 s = D 3 s := fun s => surveyT_lo (by omega)
  have hb := fun s (hs : s < tot C) (hl : liveB D s = true) => e_below (fu := fu) (M := M) h hO hI.2.2.1 h13 h3 hs hl hf
  unfold F_X2_slotOfLive
  rw [es]
  simp only [Option.bind_some]
  generalize surveyT D (C 0 0) (C 0 1) = E at *
  have key := lpx (fun l i => L_X2_slotOfLive_6 fu l 0 x (i3 i) (emb 0 E M)) (fun s => liveB D s && decide (i3 (rkN C D s) = x)) (tot C) (some (-1, emb 0 E M)) (fun s => some (i3 s, emb 0 E M)) ?_ ?_ ?_ fu (by omega)
  · refine Eq.trans key ?_
    unfold slX
    cases lst (fun s => liveB D s && decide (i3 (rkN C D s) = x)) (tot C) <;> rfl
  · intro l i hi hp
    have e13 := h13 i hi
    have e3 := h3 i
    show L_X2_slotOfLive_6 fu (l + 1) 0 x (i3 i) (emb 0 E M) = L_X2_slotOfLive_6 fu l 0 x (i3 (i + 1)) (emb 0 E M)
    conv => lhs; unfold L_X2_slotOfLive_6
    simp (disch := first | assumption | omega) only [l0_7, l0_8, l0_9, l0_10, l0_11, l0_12, l0_13, l0_14, l0_15, l2_0, l2_5, l2_6, l2_7, l2_8, l2_9, l2_12, l2_13, l7_4, l7_5, l7_6, l7_7, l8_0, l8_1, l8_2, l9_1, l9_2, l9_3, l9_4, l4_0_0, l4_0_1, l4_0_2, l4_0_3, l3_0_2, l3_0_3, l3_0_4, l3_0_5, l10_0_0, l1_0_1, l1_0_2, l1_0_3, l1_1_1, l1_1_2, l1_1_3, l1_2_1, l1_2_2, l1_2_3, l5_0_0, l5_0_2, l5_0_3, l5_0_4, l11_0_0, l11_0_5, l11_0_6, l11_0_7, l11_0_8, l11_0_9, l11_0_10, l11_0_11, l11_0_12, l11_0_13, l24_0_0, l24_0_1, l25_0_0, l25_0_1, l12_0_1, l12_0_4, l12_0_5, l12_0_6, l12_0_9, l12_0_10, l12_0_11, l12_0_13, l12_0_14, l12_0_15, l12_0_16, l12_0_17, l12_0_18, l12_0_19, l12_0_23, l12_0_24, l12_0_25, l12_0_27, n_a0, n_a1, n_a2, n_a3, n_a4, n_a5, n_a6, n_a7, n_a8, n_a9, n_a10, n_b0, n_b1, n_b2, n_p0, n_p1, n_p2, n_p3, n_p4, n_s0, n_s1, n_s2, n_s3, n_nm, n20_18, n20_19, n20_20, n20_21, n20_44, n20_45, n20_46, n20_47, n20_48, n20_49, n20_83, n20_84, n20_85, n20_86, n20_87, n20_88, n20_89, n20_90, n20_91, n20_92, n20_93, n20_94, n20_95, n20_96, n20_97, n20_98, n21_2, n21_3, n21_4, n21_5, n21_6, n22_6, n22_7, n22_17, n22_18, n22_19, n22_20, n23_0, n24_0, n25_0, r_a0, w_a0, r_a1, w_a1, r_a2, w_a2, r_a3, w_a3, r_a4, w_a4, r_a5, w_a5, r_a6, w_a6, r_a7, w_a7, r_a8, w_a8, r_a9, w_a9, r_a10, w_a10, r_b0, w_b0, r_b1, w_b1, r_b2, w_b2, r_d, w_d, r_c, w_c, r_e, w_e, r_t, w_t, r_f0, w_f0, r_f1, w_f1, r_f2, w_f2, r_f3, w_f3, r_e0, w_e0, r_e1, w_e1, r_e2, w_e2, r_o7, r_o8, r_o9, r_o10, r_o1, r_o5, r_o6, r_o11, r_o12, r_o21, r_o23, r_p0, r_p1, r_p2, r_s0, r_s1, r_s2, r_s3, i3_add1, i3_add, i3_mul, i3_addl, i3_mull, i3_ladd, i3_lmul, i3_div4, i3_le, i3_lt, i3_eq, i3_lel, i3_lle, i3_ltl, i3_llt, i3_eql, i3_leq, i3_nl, i3_0l, i3_nn, n1_lt, n1_le, xi_i3, xin_i3, xi_lit, xin_lit, xb0, xb1, gd_t, nz4, Option.bind_some, gR_emb, gN_emb, gL_emb, ↓reduceIte, if_true, if_false, not_true_eq_false, not_false_eq_true, eq_self, Nat.not_lt_zero, Nat.zero_le, true_or, or_true, false_or, or_false, true_and, and_true, false_and, and_false, o5, e13, e3, bz_0]
    rw [if_neg (by omega)]
    cases e : liveB D i with
    | false => rw [if_pos rfl]
    | true =>
      rw [e, Bool.true_and, decide_eq_false_iff_not] at hp
      rw [if_neg (by decide), hb i hi e]
      simp only [Option.bind_some]
      rw [if_pos hp]
  · intro l i hi hp
    have e13 := h13 i hi
    have e3 := h3 i
    simp only [Bool.and_eq_true, decide_eq_true_eq] at hp
    show L_X2_slotOfLive_6 fu (l + 1) 0 x (i3 i) (emb 0 E M) = _
    conv => lhs; unfold L_X2_slotOfLive_6
    simp (disch := first | assumption | omega) only [l0_7, l0_8, l0_9, l0_10, l0_11, l0_12, l0_13, l0_14, l0_15, l2_0, l2_5, l2_6, l2_7, l2_8, l2_9, l2_12, l2_13, l7_4, l7_5, l7_6, l7_7, l8_0, l8_1, l8_2, l9_1, l9_2, l9_3, l9_4, l4_0_0, l4_0_1, l4_0_2, l4_0_3, l3_0_2, l3_0_3, l3_0_4, l3_0_5, l10_0_0, l1_0_1, l1_0_2, l1_0_3, l1_1_1, l1_1_2, l1_1_3, l1_2_1, l1_2_2, l1_2_3, l5_0_0, l5_0_2, l5_0_3, l5_0_4, l11_0_0, l11_0_5, l11_0_6, l11_0_7, l11_0_8, l11_0_9, l11_0_10, l11_0_11, l11_0_12, l11_0_13, l24_0_0, l24_0_1, l25_0_0, l25_0_1, l12_0_1, l12_0_4, l12_0_5, l12_0_6, l12_0_9, l12_0_10, l12_0_11, l12_0_13, l12_0_14, l12_0_15, l12_0_16, l12_0_17, l12_0_18, l12_0_19, l12_0_23, l12_0_24, l12_0_25, l12_0_27, n_a0, n_a1, n_a2, n_a3, n_a4, n_a5, n_a6, n_a7, n_a8, n_a9, n_a10, n_b0, n_b1, n_b2, n_p0, n_p1, n_p2, n_p3, n_p4, n_s0, n_s1, n_s2, n_s3, n_nm, n20_18, n20_19, n20_20, n20_21, n20_44, n20_45, n20_46, n20_47, n20_48, n20_49, n20_83, n20_84, n20_85, n20_86, n20_87, n20_88, n20_89, n20_90, n20_91, n20_92, n20_93, n20_94, n20_95, n20_96, n20_97, n20_98, n21_2, n21_3, n21_4, n21_5, n21_6, n22_6, n22_7, n22_17, n22_18, n22_19, n22_20, n23_0, n24_0, n25_0, r_a0, w_a0, r_a1, w_a1, r_a2, w_a2, r_a3, w_a3, r_a4, w_a4, r_a5, w_a5, r_a6, w_a6, r_a7, w_a7, r_a8, w_a8, r_a9, w_a9, r_a10, w_a10, r_b0, w_b0, r_b1, w_b1, r_b2, w_b2, r_d, w_d, r_c, w_c, r_e, w_e, r_t, w_t, r_f0, w_f0, r_f1, w_f1, r_f2, w_f2, r_f3, w_f3, r_e0, w_e0, r_e1, w_e1, r_e2, w_e2, r_o7, r_o8, r_o9, r_o10, r_o1, r_o5, r_o6, r_o11, r_o12, r_o21, r_o23, r_p0, r_p1, r_p2, r_s0, r_s1, r_s2, r_s3, i3_add1, i3_add, i3_mul, i3_addl, i3_mull, i3_ladd, i3_lmul, i3_div4, i3_le, i3_lt, i3_eq, i3_lel, i3_lle, i3_ltl, i3_llt, i3_eql, i3_leq, i3_nl, i3_0l, i3_nn, n1_lt, n1_le, xi_i3, xin_i3, xi_lit, xin_lit, xb0, xb1, gd_t, nz4, Option.bind_some, gR_emb, gN_emb, gL_emb, ↓reduceIte, if_true, if_false, not_true_eq_false, not_false_eq_true, eq_self, Nat.not_lt_zero, Nat.zero_le, true_or, or_true, false_or, or_false, true_and, and_true, false_and, and_false, o5, e13, e3, bz_0]
    rw [if_neg (by omega), hp.1, if_neg (by decide), hb i hi hp.1]
    simp only [Option.bind_some]
    rw [if_neg (fun q => q hp.2)]
  · intro l
    show L_X2_slotOfLive_6 fu (l + 1) 0 x (i3 (tot C)) (emb 0 E M) = _
    conv => lhs; unfold L_X2_slotOfLive_6
    simp (disch := first | assumption | omega) only [l0_7, l0_8, l0_9, l0_10, l0_11, l0_12, l0_13, l0_14, l0_15, l2_0, l2_5, l2_6, l2_7, l2_8, l2_9, l2_12, l2_13, l7_4, l7_5, l7_6, l7_7, l8_0, l8_1, l8_2, l9_1, l9_2, l9_3, l9_4, l4_0_0, l4_0_1, l4_0_2, l4_0_3, l3_0_2, l3_0_3, l3_0_4, l3_0_5, l10_0_0, l1_0_1, l1_0_2, l1_0_3, l1_1_1, l1_1_2, l1_1_3, l1_2_1, l1_2_2, l1_2_3, l5_0_0, l5_0_2, l5_0_3, l5_0_4, l11_0_0, l11_0_5, l11_0_6, l11_0_7, l11_0_8, l11_0_9, l11_0_10, l11_0_11, l11_0_12, l11_0_13, l24_0_0, l24_0_1, l25_0_0, l25_0_1, l12_0_1, l12_0_4, l12_0_5, l12_0_6, l12_0_9, l12_0_10, l12_0_11, l12_0_13, l12_0_14, l12_0_15, l12_0_16, l12_0_17, l12_0_18, l12_0_19, l12_0_23, l12_0_24, l12_0_25, l12_0_27, n_a0, n_a1, n_a2, n_a3, n_a4, n_a5, n_a6, n_a7, n_a8, n_a9, n_a10, n_b0, n_b1, n_b2, n_p0, n_p1, n_p2, n_p3, n_p4, n_s0, n_s1, n_s2, n_s3, n_nm, n20_18, n20_19, n20_20, n20_21, n20_44, n20_45, n20_46, n20_47, n20_48, n20_49, n20_83, n20_84, n20_85, n20_86, n20_87, n20_88, n20_89, n20_90, n20_91, n20_92, n20_93, n20_94, n20_95, n20_96, n20_97, n20_98, n21_2, n21_3, n21_4, n21_5, n21_6, n22_6, n22_7, n22_17, n22_18, n22_19, n22_20, n23_0, n24_0, n25_0, r_a0, w_a0, r_a1, w_a1, r_a2, w_a2, r_a3, w_a3, r_a4, w_a4, r_a5, w_a5, r_a6, w_a6, r_a7, w_a7, r_a8, w_a8, r_a9, w_a9, r_a10, w_a10, r_b0, w_b0, r_b1, w_b1, r_b2, w_b2, r_d, w_d, r_c, w_c, r_e, w_e, r_t, w_t, r_f0, w_f0, r_f1, w_f1, r_f2, w_f2, r_f3, w_f3, r_e0, w_e0, r_e1, w_e1, r_e2, w_e2, r_o7, r_o8, r_o9, r_o10, r_o1, r_o5, r_o6, r_o11, r_o12, r_o21, r_o23, r_p0, r_p1, r_p2, r_s0, r_s1, r_s2, r_s3, i3_add1, i3_add, i3_mul, i3_addl, i3_mull, i3_ladd, i3_lmul, i3_div4, i3_le, i3_lt, i3_eq, i3_lel, i3_lle, i3_ltl, i3_llt, i3_eql, i3_leq, i3_nl, i3_0l, i3_nn, n1_lt, n1_le, xi_i3, xin_i3, xi_lit, xin_lit, xb0, xb1, gd_t, nz4, Option.bind_some, gR_emb, gN_emb, gL_emb, ↓reduceIte, if_true, if_false, not_true_eq_false, not_false_eq_true, eq_self, Nat.not_lt_zero, Nat.zero_le, true_or, or_true, false_or, or_false, true_and, and_true, false_and, and_false, o5]
    rw [if_pos (Nat.le_refl _)]
theorem t_liveAbove (h : Lay M) (hM : MCfg C X) (hB : CB C) (hR : Rel C 0 D X) (hI : Inv C L D) (hLk : Lk D X) (hn : n < 2147483648) (hf : 1100 < fu) : F_X12_liveAbove fu 0 (i3 n) (mmb X M) = some (on (nxF D n (tot C)), mmb X M) := by
  have h36 := tot36 hB
  have kl : ∀ s, s < tot C → F_X12_isLive fu 0 0 (i3 s) (mmb X M) = some (bz (liveB D s), mmb X M) := fun s hs => t_isLive (b := 0) h (by omega) hB hR hI.2.1 hI.2.2.1 hI.2.2.2.1 hI.2.2.2.2.2.1 hLk (by omega) hs
  have kn : ∀ s, s < tot C → liveB D s = true → F_X12_numberOf fu 0 0 (i3 s) (mmb X M) = some (i3 (sq D s), mmb X M) := fun s hs hl => by
    have := t_numberOf (fu := fu) (M := M) (b := 0) h (by omega) hB hR hs (live_ne hl)
    rw [(node_seq (hI.2.2.1 s hs) (live_isN hl)).1] at this
    exact this
  unfold F_X12_liveAbove
  refine lpc (fun l i (z : Option Nat) => L_X12_liveAbove_4 fu l 0 (i3 n) (on z) (i3 i) (mmb X M)) (fun i => nxF D n i) (tot C) _ ?_ ?_ fu 0 (by omega) (by omega)
  · intro l i hi
    show L_X12_liveAbove_4 fu (l + 1) 0 (i3 n) (on (nxF D n i)) (i3 i) (mmb X M) = L_X12_liveAbove_4 fu l 0 (i3 n) (on (nxF D n (i + 1))) (i3 (i + 1)) (mmb X M)
    have hsp := (nx_spec (D := D) (n := n) i).1
    have eu : nxF D n (i + 1) = if liveB D i && (decide (n < sq D i) && (match nxF D n i with | none => true | some b => decide (sq D i < sq D b))) then some i else nxF D n i := rfl
    rw [eu]
    conv => lhs; unfold L_X12_liveAbove_4
    rw [t_all h hM]
    simp only [Option.bind_some]
    rw [if_neg (fun q => by have := (i3_le (by omega) (by omega)).mp q; omega), kl i hi]
    simp only [Option.bind_some, bz_0]
    unfold J_X12_liveAbove_55
    rw [i3_add1]
    cases e : liveB D i with
    | false => rw [if_pos rfl, if_pos rfl, Bool.false_and, if_neg (by decide)]
    | true =>
      have q2 : sq D i < 2147483648 := xi_lt _
      rw [if_neg (by decide), kn i hi e, Bool.true_and]
      simp only [Option.bind_some]
      by_cases c : n < sq D i
      · rw [if_neg (fun q => by have := (i3_le q2 hn).mp q; omega), decide_eq_true c, Bool.true_and]
        cases e2 : nxF D n i with
        | none => rw [if_pos (show on none < 0 from by decide), if_neg (by decide), if_pos rfl]; rfl
        | some b =>
          obtain ⟨b1, b2, b3, -⟩ := hsp b e2
          have q3 : sq D b < 2147483648 := xi_lt _
          rw [if_neg (show ¬ on (some b) < 0 from fun q => (i3_nl (a := b) (by omega)).mp q)]
          simp only [Option.bind_some]
          rw [show on (some b) = i3 b from rfl, kn i hi e]
          simp only [Option.bind_some]
          rw [kn b (by omega) b2]
          simp only [Option.bind_some]
          by_cases c2 : sq D i < sq D b
          · rw [if_neg (fun q => by have := (i3_le q3 q2).mp q; omega), if_neg (by decide), if_pos (decide_eq_true c2)]; rfl
          · rw [if_pos ((i3_le q3 q2).mpr (by omega)), if_pos trivial, if_neg (by rw [decide_eq_false c2]; decide)]; rfl
      · rw [if_pos ((i3_le q2 hn).mpr (by omega)), if_pos trivial, decide_eq_false c, Bool.false_and, if_neg (by decide)]
  · intro l
    show L_X12_liveAbove_4 fu (l + 1) 0 (i3 n) (on (nxF D n (tot C))) (i3 (tot C)) (mmb X M) = _
    conv => lhs; unfold L_X12_liveAbove_4
    rw [t_all h hM]
    simp only [Option.bind_some]
    rw [if_pos (Int32.le_refl _)]
theorem op_oldest (hS : SimP C R a w n W V B M) (hf : 1100 < fu) : Both C R a w n W V B (F_X11_oldest fu 0) (F_X12_oldest fu 0) M := by
  obtain ⟨s1, s2, s3, s4, s5, s6, ⟨L, l1, l2, l3, l4, l5, l6⟩, s8, s9, s10, s11, s12, s13, s14, s15⟩ := id hS
  have h := s1.1
  have h36 := tot36 s2
  have hM0 := up0_M (v := 0) s4
  have hX := up0_Rel (v := 0) l4
  have hL0 := up0_Lk (v := 0) s8
  have hX2 : Rel C 0 (tb 0 M) (lkX (up (tX M) 0 0 0) 0 (i3 (fsN (tb 0 M)), i3 (wpN (tb 0 M)))) := Rel_95 hX (fun k => lkX_o (Or.inl (by decide)))
  have hM2 : MCfg C (lkX (up (tX M) 0 0 0) 0 (i3 (fsN (tb 0 M)), i3 (wpN (tb 0 M)))) := MCfg_90 hM0 (fun k => lkX_o (Or.inl (by decide)))
  have es := e_slotOfLive (fu := fu) (M := M) (D := tb 0 M) (x := 0) h s2 l2 l3 hf
  rw [emb_tb, show (0 : Int32) = i3 0 from rfl, slX_i3 (by omega) s2] at es
  have hO := (Okd_survey (d := 3) (nb := C 0 0) (nw := C 0 1) (Okd3 l2)).1
  have eb := fun x => e_isSlot (fu := fu) (M := M) (D := surveyT (tb 0 M) (C 0 0) (C 0 1)) (d := 0) (x := x) hO
  have kl : ∀ M1, Lay M1 → F_X12_looks fu 0 0 (mmb (up (tX M) 0 0 0) M1) = some (mmb (lkX (up (tX M) 0 0 0) 0 (i3 (fsN (tb 0 M)), i3 (wpN (tb 0 M)))) M1) := fun M1 h1 => t_looks (b := 0) h1 hM0 (by omega) s2 hX l2.2.1 l2.2.2.1 l2.2.2.2.1 l2.2.2.2.2.2.1 hL0 (by omega)
  have ka : ∀ M1, Lay M1 → F_X12_liveAbove fu 0 0 (mmb (lkX (up (tX M) 0 0 0) 0 (i3 (fsN (tb 0 M)), i3 (wpN (tb 0 M)))) M1) = some (on (slL C (tb 0 M) 0), mmb (lkX (up (tX M) 0 0 0) 0 (i3 (fsN (tb 0 M)), i3 (wpN (tb 0 M)))) M1) := fun M1 h1 => by
    have := t_liveAbove (fu := fu) (M := M1) (n := 0) h1 hM2 s2 hX2 l2 Lk_lkX (by omega) hf
    rw [nx_0 l2.2.2.1] at this
    exact this
  cases ho : slL C (tb 0 M) 0 with
  | none =>
    rw [ho] at es
    refine op_read (r := -1) hS ?_ Sv_survey (InV_survey s2 l3) KE_survey (fun M1 h1 => ⟨_, ?_, FmS_lk (v := 0)⟩)
    · unfold F_X11_oldest
      rw [l11_0_6 h]
      simp only [Option.bind_some]
      rw [show (0 : Int32) = i3 0 from rfl, es]
      simp only [Option.bind_some, gR_emb]
      rw [l11_0_6 h]
      simp only [Option.bind_some]
      rw [l2_0 h (by omega)]
      simp only [Option.bind_some]
      rw [eb]
      rfl
    · unfold F_X12_oldest
      simp only [sI_th]
      rw [kl M1 h1]
      simp only [Option.bind_some]
      rw [ka M1 h1, ho]
      rfl
  | some s =>
    obtain ⟨t1, t2, t3⟩ := sl_some ho
    rw [ho] at es
    have hb : isBlkB (tot C) (i3 s) = true := by
      unfold isBlkB
      rw [decide_eq_false (fun q => (i3_nl (a := s) (by omega)).mp q), decide_eq_false (fun q => by have := (i3_le (by omega) (by omega)).mp q; omega)]
      rfl
    have e3 : surveyT (tb 0 M) (C 0 0) (C 0 1) 3 s = tb 0 M 3 s := surveyT_lo (by omega)
    refine op_read (r := tb 0 M 3 s) hS ?_ Sv_survey (InV_survey s2 l3) KE_survey (fun M1 h1 => ⟨_, ?_, FmS_lk (v := 0)⟩)
    · unfold F_X11_oldest
      rw [l11_0_6 h]
      simp only [Option.bind_some]
      rw [show (0 : Int32) = i3 0 from rfl, es]
      simp only [Option.bind_some, gR_emb]
      rw [l11_0_6 h]
      simp only [Option.bind_some]
      rw [l2_0 h (by omega)]
      simp only [Option.bind_some]
      rw [show on (some s) = i3 s from rfl, eb, hb]
      simp only [Option.bind_some, bz_0]
      rw [show (i3 0 : Int32) = 0 from rfl, if_neg (fun q => by cases (bz_0 true ▸ q : true = false))]
      simp (disch := first | assumption | omega) only [l0_7, l0_8, l0_9, l0_10, l0_11, l0_12, l0_13, l0_14, l0_15, l2_0, l2_5, l2_6, l2_7, l2_8, l2_9, l2_12, l2_13, l7_4, l7_5, l7_6, l7_7, l8_0, l8_1, l8_2, l9_1, l9_2, l9_3, l9_4, l4_0_0, l4_0_1, l4_0_2, l4_0_3, l3_0_2, l3_0_3, l3_0_4, l3_0_5, l10_0_0, l1_0_1, l1_0_2, l1_0_3, l1_1_1, l1_1_2, l1_1_3, l1_2_1, l1_2_2, l1_2_3, l5_0_0, l5_0_2, l5_0_3, l5_0_4, l11_0_0, l11_0_5, l11_0_6, l11_0_7, l11_0_8, l11_0_9, l11_0_10, l11_0_11, l11_0_12, l11_0_13, l24_0_0, l24_0_1, l25_0_0, l25_0_1, l12_0_1, l12_0_4, l12_0_5, l12_0_6, l12_0_9, l12_0_10, l12_0_11, l12_0_13, l12_0_14, l12_0_15, l12_0_16, l12_0_17, l12_0_18, l12_0_19, l12_0_23, l12_0_24, l12_0_25, l12_0_27, n_a0, n_a1, n_a2, n_a3, n_a4, n_a5, n_a6, n_a7, n_a8, n_a9, n_a10, n_b0, n_b1, n_b2, n_p0, n_p1, n_p2, n_p3, n_p4, n_s0, n_s1, n_s2, n_s3, n_nm, n20_18, n20_19, n20_20, n20_21, n20_44, n20_45, n20_46, n20_47, n20_48, n20_49, n20_83, n20_84, n20_85, n20_86, n20_87, n20_88, n20_89, n20_90, n20_91, n20_92, n20_93, n20_94, n20_95, n20_96, n20_97, n20_98, n21_2, n21_3, n21_4, n21_5, n21_6, n22_6, n22_7, n22_17, n22_18, n22_19, n22_20, n23_0, n24_0, n25_0, r_a0, w_a0, r_a1, w_a1, r_a2, w_a2, r_a3, w_a3, r_a4, w_a4, r_a5, w_a5, r_a6, w_a6, r_a7, w_a7, r_a8, w_a8, r_a9, w_a9, r_a10, w_a10, r_b0, w_b0, r_b1, w_b1, r_b2, w_b2, r_d, w_d, r_c, w_c, r_e, w_e, r_t, w_t, r_f0, w_f0, r_f1, w_f1, r_f2, w_f2, r_f3, w_f3, r_e0, w_e0, r_e1, w_e1, r_e2, w_e2, r_o7, r_o8, r_o9, r_o10, r_o1, r_o5, r_o6, r_o11, r_o12, r_o21, r_o23, r_p0, r_p1, r_p2, r_s0, r_s1, r_s2, r_s3, i3_add1, i3_add, i3_mul, i3_addl, i3_mull, i3_ladd, i3_lmul, i3_div4, i3_le, i3_lt, i3_eq, i3_lel, i3_lle, i3_ltl, i3_llt, i3_eql, i3_leq, i3_nl, i3_0l, i3_nn, n1_lt, n1_le, xi_i3, xin_i3, xi_lit, xin_lit, xb0, xb1, gd_t, nz4, Option.bind_some, gR_emb, gN_emb, gL_emb, ↓reduceIte, if_true, if_false, not_true_eq_false, not_false_eq_true, eq_self, Nat.not_lt_zero, Nat.zero_le, true_or, or_true, false_or, or_false, true_and, and_true, false_and, and_false, e3]
    · unfold F_X12_oldest
      simp only [sI_th]
      rw [kl M1 h1]
      simp only [Option.bind_some]
      rw [ka M1 h1, ho]
      simp only [Option.bind_some]
      have kn : F_X12_numberOf fu 0 0 (i3 s) (mmb (lkX (up (tX M) 0 0 0) 0 (i3 (fsN (tb 0 M)), i3 (wpN (tb 0 M)))) M1) = some (tb 0 M 3 s, mmb (lkX (up (tX M) 0 0 0) 0 (i3 (fsN (tb 0 M)), i3 (wpN (tb 0 M)))) M1) := t_numberOf (b := 0) h1 (by omega) s2 hX2 t1 (live_ne t2)
      rw [show on (some s) = i3 s from rfl, if_pos (ge0 (by omega)), kn]
      rfl
end
