/-! ===== what fits what is seen: the class ===== -/
/-- the clues as the class holds them: cells c (its own), p, v, s -/
def SeenC (c p v s m : Nat) (A : Nat → Nat) (B S : Nat → Int32) (M : xM) : Prop := m ≤ 8 ∧ gI M 1 c 0 = i3 m ∧ ∀ i, i < m → A i < 20 ∧ gI M 20 p i = i3 (A i) ∧ gI M 20 v i = B i ∧ gI M 22 s i = S i ∧ (S i = 0 ∨ S i = 1)
/-- the maps up to k are marked -/
def ftT (D : xT) (φ : Nat → Bool) (k : Nat) : xT := fun i j => if i = 23 ∧ j < k then bz (φ j) else D i j
/-- how often a map was noted -/
def tmN (D : xT) (P m : Nat) : Nat := cnt (fun p => decide (D 22 p = i3 m)) P
section
variable {M : xM} {D E X X' : xT} {C : xC} {R B S g : Nat → Int32} {d fu n m i j o p q a c k l s x K P l0 : Nat} {A : Nat → Nat} {fit ok φ : Nat → Bool} {sv mx : Nat → Nat}
theorem r_q44 (hd : d < 5) : gI (emb d D M) 20 44 k = gI M 20 44 k := gI_not (by unfold own; rw [if_pos rfl, if_neg (cb_no d 44 (by omega) (by omega)), if_neg (by omega), if_neg (by omega), if_neg (by omega), if_neg (by omega), if_neg (by omega), if_neg (by omega)])
theorem r_q45 (hd : d < 5) : gI (emb d D M) 20 45 k = gI M 20 45 k := gI_not (by unfold own; rw [if_pos rfl, if_neg (cb_no d 45 (by omega) (by omega)), if_neg (by omega), if_neg (by omega), if_neg (by omega), if_neg (by omega), if_neg (by omega), if_neg (by omega)])
theorem r_q46 (hd : d < 5) : gI (emb d D M) 20 46 k = gI M 20 46 k := gI_not (by unfold own; rw [if_pos rfl, if_neg (cb_no d 46 (by omega) (by omega)), if_neg (by omega), if_neg (by omega), if_neg (by omega), if_neg (by omega), if_neg (by omega), if_neg (by omega)])
theorem ob_no6 (d : Nat) : ¬ (ob d ≤ 6 ∧ 6 < ob d + 3) := by unfold ob; split <;> omega
theorem r_q6 : gI (emb d D M) 22 6 k = gI M 22 6 k := gI_not (by unfold own; rw [if_neg (by decide), if_pos rfl, if_neg (ob_no6 d), if_neg (by decide)])
theorem sf_lst : ∀ m, (match lst (badB A B S g) m with | some _ => false | none => true) = sfB A B S g m
  | 0 => rfl
  | m + 1 => by
    have ih := sf_lst m
    unfold lst sfB
    rw [← ih]
    cases lst (badB A B S g) m with
    | some i => rfl
    | none => cases badB A B S g m <;> rfl
theorem e_fit (h : Lay M) (hd : d < 5) (hS : SeenC 0 44 45 6 m A B S M) (hf : 100 < fu) (hk : k < 288) : F_X1_fit fu 0 (some 47) (i3 (k * 20)) (emb d D M) = some (bz (sfB A B S (fun a => D 20 (k * 20 + a)) m), emb d D M) := by
  obtain ⟨hm, e0, hcl⟩ := hS
  unfold F_X1_fit
  have key := lpx (fun l i => L_X1_fit_2 fu l 0 (some 47) (i3 (k * 20)) (i3 i) (emb d D M)) (badB A B S (fun a => D 20 (k * 20 + a))) m (some (1, emb d D M)) (fun _ => some (0, emb d D M)) ?_ ?_ ?_ fu (by omega)
  · refine Eq.trans key ?_
    rw [← sf_lst]
    cases lst (badB A B S (fun a => D 20 (k * 20 + a))) m <;> rfl
  · intro l i hi hb
    obtain ⟨c1, c2, c3, c4, c5⟩ := hcl i hi
    unfold badB at hb
    show L_X1_fit_2 fu (l + 1) 0 (some 47) (i3 (k * 20)) (i3 i) (emb d D M) = L_X1_fit_2 fu l 0 (some 47) (i3 (k * 20)) (i3 (i + 1)) (emb d D M)
    conv => lhs; unfold L_X1_fit_2
    simp (disch := first | assumption | omega) only [l0_7, l0_8, l0_9, l0_10, l0_11, l0_12, l0_13, l0_14, l0_15, l2_0, l2_5, l2_6, l2_7, l2_8, l2_9, l2_12, l2_13, l7_4, l7_5, l7_6, l7_7, l8_0, l8_1, l8_2, l9_1, l9_2, l9_3, l9_4, l4_0_0, l4_0_1, l4_0_2, l4_0_3, l3_0_2, l3_0_3, l3_0_4, l3_0_5, l10_0_0, l1_0_1, l1_0_2, l1_0_3, l1_1_1, l1_1_2, l1_1_3, l1_2_1, l1_2_2, l1_2_3, l5_0_0, l5_0_2, l5_0_3, l5_0_4, l11_0_0, l11_0_5, l11_0_6, l11_0_7, l11_0_8, l11_0_9, l11_0_10, l11_0_11, l11_0_12, l11_0_13, l24_0_0, l24_0_1, l25_0_0, l25_0_1, l12_0_1, l12_0_4, l12_0_5, l12_0_6, l12_0_9, l12_0_10, l12_0_11, l12_0_13, l12_0_14, l12_0_15, l12_0_16, l12_0_17, l12_0_18, l12_0_19, l12_0_23, l12_0_24, l12_0_25, l12_0_27, n_a0, n_a1, n_a2, n_a3, n_a4, n_a5, n_a6, n_a7, n_a8, n_a9, n_a10, n_b0, n_b1, n_b2, n_p0, n_p1, n_p2, n_p3, n_p4, n_s0, n_s1, n_s2, n_s3, n_nm, n20_18, n20_19, n20_20, n20_21, n20_44, n20_45, n20_46, n20_47, n20_48, n20_49, n20_83, n20_84, n20_85, n20_86, n20_87, n20_88, n20_89, n20_90, n20_91, n20_92, n20_93, n20_94, n20_95, n20_96, n20_97, n20_98, n21_2, n21_3, n21_4, n21_5, n21_6, n22_6, n22_7, n22_17, n22_18, n22_19, n22_20, n23_0, n24_0, n25_0, r_a0, w_a0, r_a1, w_a1, r_a2, w_a2, r_a3, w_a3, r_a4, w_a4, r_a5, w_a5, r_a6, w_a6, r_a7, w_a7, r_a8, w_a8, r_a9, w_a9, r_a10, w_a10, r_b0, w_b0, r_b1, w_b1, r_b2, w_b2, r_d, w_d, r_c, w_c, r_e, w_e, r_t, w_t, r_f0, w_f0, r_f1, w_f1, r_f2, w_f2, r_f3, w_f3, r_e0, w_e0, r_e1, w_e1, r_e2, w_e2, r_o7, r_o8, r_o9, r_o10, r_o1, r_o5, r_o6, r_o11, r_o12, r_o21, r_o23, r_p0, r_p1, r_p2, r_s0, r_s1, r_s2, r_s3, i3_add1, i3_add, i3_mul, i3_addl, i3_mull, i3_ladd, i3_lmul, i3_div4, i3_le, i3_lt, i3_eq, i3_lel, i3_lle, i3_ltl, i3_llt, i3_eql, i3_leq, i3_nl, i3_0l, i3_nn, n1_lt, n1_le, xi_i3, xin_i3, xi_lit, xin_lit, xb0, xb1, gd_t, nz4, Option.bind_some, gR_emb, gN_emb, gL_emb, ↓reduceIte, if_true, if_false, not_true_eq_false, not_false_eq_true, eq_self, Nat.not_lt_zero, Nat.zero_le, true_or, or_true, false_or, or_false, true_and, and_true, false_and, and_false, e0, r_q44 hd, r_q45 hd, c2, c3, show Int32.ofNat 5760 = i3 5760 from rfl]
    rw [if_neg (by omega), if_neg (by omega), if_neg (by omega)]
    unfold J_X1_fit_51
    simp (disch := first | assumption | omega) only [l0_7, l0_8, l0_9, l0_10, l0_11, l0_12, l0_13, l0_14, l0_15, l2_0, l2_5, l2_6, l2_7, l2_8, l2_9, l2_12, l2_13, l7_4, l7_5, l7_6, l7_7, l8_0, l8_1, l8_2, l9_1, l9_2, l9_3, l9_4, l4_0_0, l4_0_1, l4_0_2, l4_0_3, l3_0_2, l3_0_3, l3_0_4, l3_0_5, l10_0_0, l1_0_1, l1_0_2, l1_0_3, l1_1_1, l1_1_2, l1_1_3, l1_2_1, l1_2_2, l1_2_3, l5_0_0, l5_0_2, l5_0_3, l5_0_4, l11_0_0, l11_0_5, l11_0_6, l11_0_7, l11_0_8, l11_0_9, l11_0_10, l11_0_11, l11_0_12, l11_0_13, l24_0_0, l24_0_1, l25_0_0, l25_0_1, l12_0_1, l12_0_4, l12_0_5, l12_0_6, l12_0_9, l12_0_10, l12_0_11, l12_0_13, l12_0_14, l12_0_15, l12_0_16, l12_0_17, l12_0_18, l12_0_19, l12_0_23, l12_0_24, l12_0_25, l12_0_27, n_a0, n_a1, n_a2, n_a3, n_a4, n_a5, n_a6, n_a7, n_a8, n_a9, n_a10, n_b0, n_b1, n_b2, n_p0, n_p1, n_p2, n_p3, n_p4, n_s0, n_s1, n_s2, n_s3, n_nm, n20_18, n20_19, n20_20, n20_21, n20_44, n20_45, n20_46, n20_47, n20_48, n20_49, n20_83, n20_84, n20_85, n20_86, n20_87, n20_88, n20_89, n20_90, n20_91, n20_92, n20_93, n20_94, n20_95, n20_96, n20_97, n20_98, n21_2, n21_3, n21_4, n21_5, n21_6, n22_6, n22_7, n22_17, n22_18, n22_19, n22_20, n23_0, n24_0, n25_0, r_a0, w_a0, r_a1, w_a1, r_a2, w_a2, r_a3, w_a3, r_a4, w_a4, r_a5, w_a5, r_a6, w_a6, r_a7, w_a7, r_a8, w_a8, r_a9, w_a9, r_a10, w_a10, r_b0, w_b0, r_b1, w_b1, r_b2, w_b2, r_d, w_d, r_c, w_c, r_e, w_e, r_t, w_t, r_f0, w_f0, r_f1, w_f1, r_f2, w_f2, r_f3, w_f3, r_e0, w_e0, r_e1, w_e1, r_e2, w_e2, r_o7, r_o8, r_o9, r_o10, r_o1, r_o5, r_o6, r_o11, r_o12, r_o21, r_o23, r_p0, r_p1, r_p2, r_s0, r_s1, r_s2, r_s3, i3_add1, i3_add, i3_mul, i3_addl, i3_mull, i3_ladd, i3_lmul, i3_div4, i3_le, i3_lt, i3_eq, i3_lel, i3_lle, i3_ltl, i3_llt, i3_eql, i3_leq, i3_nl, i3_0l, i3_nn, n1_lt, n1_le, xi_i3, xin_i3, xi_lit, xin_lit, xb0, xb1, gd_t, nz4, Option.bind_some, gR_emb, gN_emb, gL_emb, ↓reduceIte, if_true, if_false, not_true_eq_false, not_false_eq_true, eq_self, Nat.not_lt_zero, Nat.zero_le, true_or, or_true, false_or, or_false, true_and, and_true, false_and, and_false, r_q6, c4]
    by_cases w : D 20 (k * 20 + A i) = B i
    · rcases c5 with c5 | c5
      · rw [c5] at hb; simp [w] at hb
      · rw [if_neg (fun q => q w), if_pos c5.symm]
    · rcases c5 with c5 | c5
      · rw [if_pos w, if_pos c5.symm]
      · rw [c5] at hb; simp [w] at hb
  · intro l i hi hb
    obtain ⟨c1, c2, c3, c4, c5⟩ := hcl i hi
    unfold badB at hb
    show L_X1_fit_2 fu (l + 1) 0 (some 47) (i3 (k * 20)) (i3 i) (emb d D M) = _
    conv => lhs; unfold L_X1_fit_2
    simp (disch := first | assumption | omega) only [l0_7, l0_8, l0_9, l0_10, l0_11, l0_12, l0_13, l0_14, l0_15, l2_0, l2_5, l2_6, l2_7, l2_8, l2_9, l2_12, l2_13, l7_4, l7_5, l7_6, l7_7, l8_0, l8_1, l8_2, l9_1, l9_2, l9_3, l9_4, l4_0_0, l4_0_1, l4_0_2, l4_0_3, l3_0_2, l3_0_3, l3_0_4, l3_0_5, l10_0_0, l1_0_1, l1_0_2, l1_0_3, l1_1_1, l1_1_2, l1_1_3, l1_2_1, l1_2_2, l1_2_3, l5_0_0, l5_0_2, l5_0_3, l5_0_4, l11_0_0, l11_0_5, l11_0_6, l11_0_7, l11_0_8, l11_0_9, l11_0_10, l11_0_11, l11_0_12, l11_0_13, l24_0_0, l24_0_1, l25_0_0, l25_0_1, l12_0_1, l12_0_4, l12_0_5, l12_0_6, l12_0_9, l12_0_10, l12_0_11, l12_0_13, l12_0_14, l12_0_15, l12_0_16, l12_0_17, l12_0_18, l12_0_19, l12_0_23, l12_0_24, l12_0_25, l12_0_27, n_a0, n_a1, n_a2, n_a3, n_a4, n_a5, n_a6, n_a7, n_a8, n_a9, n_a10, n_b0, n_b1, n_b2, n_p0, n_p1, n_p2, n_p3, n_p4, n_s0, n_s1, n_s2, n_s3, n_nm, n20_18, n20_19, n20_20, n20_21, n20_44, n20_45, n20_46, n20_47, n20_48, n20_49, n20_83, n20_84, n20_85, n20_86, n20_87, n20_88, n20_89, n20_90, n20_91, n20_92, n20_93, n20_94, n20_95, n20_96, n20_97, n20_98, n21_2, n21_3, n21_4, n21_5, n21_6, n22_6, n22_7, n22_17, n22_18, n22_19, n22_20, n23_0, n24_0, n25_0, r_a0, w_a0, r_a1, w_a1, r_a2, w_a2, r_a3, w_a3, r_a4, w_a4, r_a5, w_a5, r_a6, w_a6, r_a7, w_a7, r_a8, w_a8, r_a9, w_a9, r_a10, w_a10, r_b0, w_b0, r_b1, w_b1, r_b2, w_b2, r_d, w_d, r_c, w_c, r_e, w_e, r_t, w_t, r_f0, w_f0, r_f1, w_f1, r_f2, w_f2, r_f3, w_f3, r_e0, w_e0, r_e1, w_e1, r_e2, w_e2, r_o7, r_o8, r_o9, r_o10, r_o1, r_o5, r_o6, r_o11, r_o12, r_o21, r_o23, r_p0, r_p1, r_p2, r_s0, r_s1, r_s2, r_s3, i3_add1, i3_add, i3_mul, i3_addl, i3_mull, i3_ladd, i3_lmul, i3_div4, i3_le, i3_lt, i3_eq, i3_lel, i3_lle, i3_ltl, i3_llt, i3_eql, i3_leq, i3_nl, i3_0l, i3_nn, n1_lt, n1_le, xi_i3, xin_i3, xi_lit, xin_lit, xb0, xb1, gd_t, nz4, Option.bind_some, gR_emb, gN_emb, gL_emb, ↓reduceIte, if_true, if_false, not_true_eq_false, not_false_eq_true, eq_self, Nat.not_lt_zero, Nat.zero_le, true_or, or_true, false_or, or_false, true_and, and_true, false_and, and_false, e0, r_q44 hd, r_q45 hd, c2, c3, show Int32.ofNat 5760 = i3 5760 from rfl]
    rw [if_neg (by omega), if_neg (by omega), if_neg (by omega)]
    unfold J_X1_fit_51
    simp (disch := first | assumption | omega) only [l0_7, l0_8, l0_9, l0_10, l0_11, l0_12, l0_13, l0_14, l0_15, l2_0, l2_5, l2_6, l2_7, l2_8, l2_9, l2_12, l2_13, l7_4, l7_5, l7_6, l7_7, l8_0, l8_1, l8_2, l9_1, l9_2, l9_3, l9_4, l4_0_0, l4_0_1, l4_0_2, l4_0_3, l3_0_2, l3_0_3, l3_0_4, l3_0_5, l10_0_0, l1_0_1, l1_0_2, l1_0_3, l1_1_1, l1_1_2, l1_1_3, l1_2_1, l1_2_2, l1_2_3, l5_0_0, l5_0_2, l5_0_3, l5_0_4, l11_0_0, l11_0_5, l11_0_6, l11_0_7, l11_0_8, l11_0_9, l11_0_10, l11_0_11, l11_0_12, l11_0_13, l24_0_0, l24_0_1, l25_0_0, l25_0_1, l12_0_1, l12_0_4, l12_0_5, l12_0_6, l12_0_9, l12_0_10, l12_0_11, l12_0_13, l12_0_14, l12_0_15, l12_0_16, l12_0_17, l12_0_18, l12_0_19, l12_0_23, l12_0_24, l12_0_25, l12_0_27, n_a0, n_a1, n_a2, n_a3, n_a4, n_a5, n_a6, n_a7, n_a8, n_a9, n_a10, n_b0, n_b1, n_b2, n_p0, n_p1, n_p2, n_p3, n_p4, n_s0, n_s1, n_s2, n_s3, n_nm, n20_18, n20_19, n20_20, n20_21, n20_44, n20_45, n20_46, n20_47, n20_48, n20_49, n20_83, n20_84, n20_85, n20_86, n20_87, n20_88, n20_89, n20_90, n20_91, n20_92, n20_93, n20_94, n20_95, n20_96, n20_97, n20_98, n21_2, n21_3, n21_4, n21_5, n21_6, n22_6, n22_7, n22_17, n22_18, n22_19, n22_20, n23_0, n24_0, n25_0, r_a0, w_a0, r_a1, w_a1, r_a2, w_a2, r_a3, w_a3, r_a4, w_a4, r_a5, w_a5, r_a6, w_a6, r_a7, w_a7, r_a8, w_a8, r_a9, w_a9, r_a10, w_a10, r_b0, w_b0, r_b1, w_b1, r_b2, w_b2, r_d, w_d, r_c, w_c, r_e, w_e, r_t, w_t, r_f0, w_f0, r_f1, w_f1, r_f2, w_f2, r_f3, w_f3, r_e0, w_e0, r_e1, w_e1, r_e2, w_e2, r_o7, r_o8, r_o9, r_o10, r_o1, r_o5, r_o6, r_o11, r_o12, r_o21, r_o23, r_p0, r_p1, r_p2, r_s0, r_s1, r_s2, r_s3, i3_add1, i3_add, i3_mul, i3_addl, i3_mull, i3_ladd, i3_lmul, i3_div4, i3_le, i3_lt, i3_eq, i3_lel, i3_lle, i3_ltl, i3_llt, i3_eql, i3_leq, i3_nl, i3_0l, i3_nn, n1_lt, n1_le, xi_i3, xin_i3, xi_lit, xin_lit, xb0, xb1, gd_t, nz4, Option.bind_some, gR_emb, gN_emb, gL_emb, ↓reduceIte, if_true, if_false, not_true_eq_false, not_false_eq_true, eq_self, Nat.not_lt_zero, Nat.zero_le, true_or, or_true, false_or, or_false, true_and, and_true, false_and, and_false, r_q6, c4]
    by_cases w : D 20 (k * 20 + A i) = B i
    · rcases c5 with c5 | c5
      · rw [if_neg (fun q => q w), c5, if_neg (by decide)]
      · rw [c5] at hb; simp [w] at hb
    · rcases c5 with c5 | c5
      · rw [c5] at hb; simp [w] at hb
      · rw [if_pos w, c5, if_neg (by decide)]
  · intro l
    show L_X1_fit_2 fu (l + 1) 0 (some 47) (i3 (k * 20)) (i3 m) (emb d D M) = _
    conv => lhs; unfold L_X1_fit_2
    simp (disch := first | assumption | omega) only [l0_7, l0_8, l0_9, l0_10, l0_11, l0_12, l0_13, l0_14, l0_15, l2_0, l2_5, l2_6, l2_7, l2_8, l2_9, l2_12, l2_13, l7_4, l7_5, l7_6, l7_7, l8_0, l8_1, l8_2, l9_1, l9_2, l9_3, l9_4, l4_0_0, l4_0_1, l4_0_2, l4_0_3, l3_0_2, l3_0_3, l3_0_4, l3_0_5, l10_0_0, l1_0_1, l1_0_2, l1_0_3, l1_1_1, l1_1_2, l1_1_3, l1_2_1, l1_2_2, l1_2_3, l5_0_0, l5_0_2, l5_0_3, l5_0_4, l11_0_0, l11_0_5, l11_0_6, l11_0_7, l11_0_8, l11_0_9, l11_0_10, l11_0_11, l11_0_12, l11_0_13, l24_0_0, l24_0_1, l25_0_0, l25_0_1, l12_0_1, l12_0_4, l12_0_5, l12_0_6, l12_0_9, l12_0_10, l12_0_11, l12_0_13, l12_0_14, l12_0_15, l12_0_16, l12_0_17, l12_0_18, l12_0_19, l12_0_23, l12_0_24, l12_0_25, l12_0_27, n_a0, n_a1, n_a2, n_a3, n_a4, n_a5, n_a6, n_a7, n_a8, n_a9, n_a10, n_b0, n_b1, n_b2, n_p0, n_p1, n_p2, n_p3, n_p4, n_s0, n_s1, n_s2, n_s3, n_nm, n20_18, n20_19, n20_20, n20_21, n20_44, n20_45, n20_46, n20_47, n20_48, n20_49, n20_83, n20_84, n20_85, n20_86, n20_87, n20_88, n20_89, n20_90, n20_91, n20_92, n20_93, n20_94, n20_95, n20_96, n20_97, n20_98, n21_2, n21_3, n21_4, n21_5, n21_6, n22_6, n22_7, n22_17, n22_18, n22_19, n22_20, n23_0, n24_0, n25_0, r_a0, w_a0, r_a1, w_a1, r_a2, w_a2, r_a3, w_a3, r_a4, w_a4, r_a5, w_a5, r_a6, w_a6, r_a7, w_a7, r_a8, w_a8, r_a9, w_a9, r_a10, w_a10, r_b0, w_b0, r_b1, w_b1, r_b2, w_b2, r_d, w_d, r_c, w_c, r_e, w_e, r_t, w_t, r_f0, w_f0, r_f1, w_f1, r_f2, w_f2, r_f3, w_f3, r_e0, w_e0, r_e1, w_e1, r_e2, w_e2, r_o7, r_o8, r_o9, r_o10, r_o1, r_o5, r_o6, r_o11, r_o12, r_o21, r_o23, r_p0, r_p1, r_p2, r_s0, r_s1, r_s2, r_s3, i3_add1, i3_add, i3_mul, i3_addl, i3_mull, i3_ladd, i3_lmul, i3_div4, i3_le, i3_lt, i3_eq, i3_lel, i3_lle, i3_ltl, i3_llt, i3_eql, i3_leq, i3_nl, i3_0l, i3_nn, n1_lt, n1_le, xi_i3, xin_i3, xi_lit, xin_lit, xb0, xb1, gd_t, nz4, Option.bind_some, gR_emb, gN_emb, gL_emb, ↓reduceIte, if_true, if_false, not_true_eq_false, not_false_eq_true, eq_self, Nat.not_lt_zero, Nat.zero_le, true_or, or_true, false_or, or_false, true_and, and_true, false_and, and_false, e0]
    rw [if_pos (Nat.le_refl _)]
theorem InE_t (hE : InE D P K) : (∀ m, m < K → tmN D P m = cnt (fun p => decide (xi (D 22 p) = m)) P) ∧ (∀ p, p < P → xi (D 22 p) < K) ∧ ∀ m, m < K → ∃ p, p < P ∧ xi (D 22 p) = m := by
  obtain ⟨a1, a2, a3, a4, a5, a6, a7, a8⟩ := hE
  refine ⟨fun m hm => cnt_congr (fun p hp => ?_), fun p hp => ?_, fun m hm => ?_⟩
  · obtain ⟨w, w1, w2⟩ := a5 p hp
    rw [w2, xi_i3 (by omega)]
    exact decide_eq_decide.mpr (i3_eq (by omega) (by omega))
  · obtain ⟨w, w1, w2⟩ := a5 p hp
    rw [w2, xi_i3 (by omega)]; exact w1
  · obtain ⟨p, p1, p2⟩ := a8 m hm
    exact ⟨p, p1, by rw [p2, xi_i3 (by omega)]⟩
theorem ftT_o (h : i ≠ 23) : ftT D φ k i j = D i j := by unfold ftT; rw [if_neg (by omega)]
theorem ftT_s : up (ftT D φ k) 23 k (bz (φ k)) = ftT D φ (k + 1) := by
  funext i j
  rw [up_at]
  unfold ftT
  by_cases c : i = 23 ∧ j = k
  · rw [if_pos c, if_pos (by omega), c.2]
  · rw [if_neg c]
    by_cases c2 : i = 23 ∧ j < k
    · rw [if_pos c2, if_pos (by omega)]
    · rw [if_neg c2, if_neg (by omega)]
theorem e_fitting (h : Lay M) (hd : d < 5) (hS : SeenC 0 44 45 6 m A B S M) (hE : InE D P K) (hf : 400 < fu) (hφ : φ = fun k => sfB A B S (fun a => D 20 (k * 20 + a)) m) :
    F_X3_fitting fu 0 (some 0) (emb d D M) = some (i3 (sumF φ (tmN D P) K), emb d (ftT D φ K) M) := by
  have hE' := hE
  obtain ⟨a1, a2, a3, a4, a5, a6, a7, a8⟩ := hE
  have hl : ∀ k, k ≤ K → sumF φ (tmN D P) k ≤ P := fun k hk => sum_le (InE_t hE').1 hk
  unfold F_X3_fitting
  have key := lpc (fun l i (y : Int32 × xT) => L_X3_fitting_4 fu l 0 (some 0) y.1 (i3 i) (emb d y.2 M)) (fun i => (i3 (sumF φ (tmN D P) i), ftT D φ i)) K (some (i3 (sumF φ (tmN D P) K), emb d (ftT D φ K) M)) ?_ ?_ fu 0 (by omega) (by omega)
  · have g0 : ftT D φ 0 = D := by funext i j; unfold ftT; rw [if_neg (by omega)]
    simp only [g0] at key
    exact key
  · intro l i hi
    show L_X3_fitting_4 fu (l + 1) 0 (some 0) (i3 (sumF φ (tmN D P) i)) (i3 i) (emb d (ftT D φ i) M) = L_X3_fitting_4 fu l 0 (some 0) (i3 (sumF φ (tmN D P) (i + 1))) (i3 (i + 1)) (emb d (ftT D φ (i + 1)) M)
    have ef := e_fit (fu := fu) (D := ftT D φ i) h hd hS (by omega) (show i < 288 by omega)
    have e1 : ftT D φ i 24 1 = i3 K := (ftT_o (by omega)).trans a4
    have e2 : (fun a => ftT D φ i 20 (i * 20 + a)) = fun a => D 20 (i * 20 + a) := by funext a; exact ftT_o (by omega)
    have e3 : sfB A B S (fun a => D 20 (i * 20 + a)) m = φ i := by rw [hφ]
    have e4 : ftT D φ (i + 1) 21 i = i3 (tmN D P i) := (ftT_o (by omega)).trans (a6 i hi)
    have e5 : ftT D φ (i + 1) 23 i = bz (φ i) := by unfold ftT; rw [if_pos (by omega)]
    have hli := hl (i + 1) (by omega)
    rw [e2, e3] at ef
    conv => lhs; unfold L_X3_fitting_4
    simp (disch := first | assumption | omega) only [l0_7, l0_8, l0_9, l0_10, l0_11, l0_12, l0_13, l0_14, l0_15, l2_0, l2_5, l2_6, l2_7, l2_8, l2_9, l2_12, l2_13, l7_4, l7_5, l7_6, l7_7, l8_0, l8_1, l8_2, l9_1, l9_2, l9_3, l9_4, l4_0_0, l4_0_1, l4_0_2, l4_0_3, l3_0_2, l3_0_3, l3_0_4, l3_0_5, l10_0_0, l1_0_1, l1_0_2, l1_0_3, l1_1_1, l1_1_2, l1_1_3, l1_2_1, l1_2_2, l1_2_3, l5_0_0, l5_0_2, l5_0_3, l5_0_4, l11_0_0, l11_0_5, l11_0_6, l11_0_7, l11_0_8, l11_0_9, l11_0_10, l11_0_11, l11_0_12, l11_0_13, l24_0_0, l24_0_1, l25_0_0, l25_0_1, l12_0_1, l12_0_4, l12_0_5, l12_0_6, l12_0_9, l12_0_10, l12_0_11, l12_0_13, l12_0_14, l12_0_15, l12_0_16, l12_0_17, l12_0_18, l12_0_19, l12_0_23, l12_0_24, l12_0_25, l12_0_27, n_a0, n_a1, n_a2, n_a3, n_a4, n_a5, n_a6, n_a7, n_a8, n_a9, n_a10, n_b0, n_b1, n_b2, n_p0, n_p1, n_p2, n_p3, n_p4, n_s0, n_s1, n_s2, n_s3, n_nm, n20_18, n20_19, n20_20, n20_21, n20_44, n20_45, n20_46, n20_47, n20_48, n20_49, n20_83, n20_84, n20_85, n20_86, n20_87, n20_88, n20_89, n20_90, n20_91, n20_92, n20_93, n20_94, n20_95, n20_96, n20_97, n20_98, n21_2, n21_3, n21_4, n21_5, n21_6, n22_6, n22_7, n22_17, n22_18, n22_19, n22_20, n23_0, n24_0, n25_0, r_a0, w_a0, r_a1, w_a1, r_a2, w_a2, r_a3, w_a3, r_a4, w_a4, r_a5, w_a5, r_a6, w_a6, r_a7, w_a7, r_a8, w_a8, r_a9, w_a9, r_a10, w_a10, r_b0, w_b0, r_b1, w_b1, r_b2, w_b2, r_d, w_d, r_c, w_c, r_e, w_e, r_t, w_t, r_f0, w_f0, r_f1, w_f1, r_f2, w_f2, r_f3, w_f3, r_e0, w_e0, r_e1, w_e1, r_e2, w_e2, r_o7, r_o8, r_o9, r_o10, r_o1, r_o5, r_o6, r_o11, r_o12, r_o21, r_o23, r_p0, r_p1, r_p2, r_s0, r_s1, r_s2, r_s3, i3_add1, i3_add, i3_mul, i3_addl, i3_mull, i3_ladd, i3_lmul, i3_div4, i3_le, i3_lt, i3_eq, i3_lel, i3_lle, i3_ltl, i3_llt, i3_eql, i3_leq, i3_nl, i3_0l, i3_nn, n1_lt, n1_le, xi_i3, xin_i3, xi_lit, xin_lit, xb0, xb1, gd_t, nz4, Option.bind_some, gR_emb, gN_emb, gL_emb, ↓reduceIte, if_true, if_false, not_true_eq_false, not_false_eq_true, eq_self, Nat.not_lt_zero, Nat.zero_le, true_or, or_true, false_or, or_false, true_and, and_true, false_and, and_false, e1]
    rw [if_neg (by omega)]
    simp only [ef, Option.bind_some]
    simp (disch := first | assumption | omega) only [l0_7, l0_8, l0_9, l0_10, l0_11, l0_12, l0_13, l0_14, l0_15, l2_0, l2_5, l2_6, l2_7, l2_8, l2_9, l2_12, l2_13, l7_4, l7_5, l7_6, l7_7, l8_0, l8_1, l8_2, l9_1, l9_2, l9_3, l9_4, l4_0_0, l4_0_1, l4_0_2, l4_0_3, l3_0_2, l3_0_3, l3_0_4, l3_0_5, l10_0_0, l1_0_1, l1_0_2, l1_0_3, l1_1_1, l1_1_2, l1_1_3, l1_2_1, l1_2_2, l1_2_3, l5_0_0, l5_0_2, l5_0_3, l5_0_4, l11_0_0, l11_0_5, l11_0_6, l11_0_7, l11_0_8, l11_0_9, l11_0_10, l11_0_11, l11_0_12, l11_0_13, l24_0_0, l24_0_1, l25_0_0, l25_0_1, l12_0_1, l12_0_4, l12_0_5, l12_0_6, l12_0_9, l12_0_10, l12_0_11, l12_0_13, l12_0_14, l12_0_15, l12_0_16, l12_0_17, l12_0_18, l12_0_19, l12_0_23, l12_0_24, l12_0_25, l12_0_27, n_a0, n_a1, n_a2, n_a3, n_a4, n_a5, n_a6, n_a7, n_a8, n_a9, n_a10, n_b0, n_b1, n_b2, n_p0, n_p1, n_p2, n_p3, n_p4, n_s0, n_s1, n_s2, n_s3, n_nm, n20_18, n20_19, n20_20, n20_21, n20_44, n20_45, n20_46, n20_47, n20_48, n20_49, n20_83, n20_84, n20_85, n20_86, n20_87, n20_88, n20_89, n20_90, n20_91, n20_92, n20_93, n20_94, n20_95, n20_96, n20_97, n20_98, n21_2, n21_3, n21_4, n21_5, n21_6, n22_6, n22_7, n22_17, n22_18, n22_19, n22_20, n23_0, n24_0, n25_0, r_a0, w_a0, r_a1, w_a1, r_a2, w_a2, r_a3, w_a3, r_a4, w_a4, r_a5, w_a5, r_a6, w_a6, r_a7, w_a7, r_a8, w_a8, r_a9, w_a9, r_a10, w_a10, r_b0, w_b0, r_b1, w_b1, r_b2, w_b2, r_d, w_d, r_c, w_c, r_e, w_e, r_t, w_t, r_f0, w_f0, r_f1, w_f1, r_f2, w_f2, r_f3, w_f3, r_e0, w_e0, r_e1, w_e1, r_e2, w_e2, r_o7, r_o8, r_o9, r_o10, r_o1, r_o5, r_o6, r_o11, r_o12, r_o21, r_o23, r_p0, r_p1, r_p2, r_s0, r_s1, r_s2, r_s3, i3_add1, i3_add, i3_mul, i3_addl, i3_mull, i3_ladd, i3_lmul, i3_div4, i3_le, i3_lt, i3_eq, i3_lel, i3_lle, i3_ltl, i3_llt, i3_eql, i3_leq, i3_nl, i3_0l, i3_nn, n1_lt, n1_le, xi_i3, xin_i3, xi_lit, xin_lit, xb0, xb1, gd_t, nz4, Option.bind_some, gR_emb, gN_emb, gL_emb, ↓reduceIte, if_true, if_false, not_true_eq_false, not_false_eq_true, eq_self, Nat.not_lt_zero, Nat.zero_le, true_or, or_true, false_or, or_false, true_and, and_true, false_and, and_false, bz_x, ftT_s, e5, bz_0, e4]
    rw [sumF_s]
    cases e : φ i with
    | false => rw [if_pos rfl, if_neg (by decide)]
    | true => rw [if_neg (by decide), if_pos rfl]
  · intro l
    show L_X3_fitting_4 fu (l + 1) 0 (some 0) (i3 (sumF φ (tmN D P) K)) (i3 K) (emb d (ftT D φ K) M) = _
    have e1 : ftT D φ K 24 1 = i3 K := (ftT_o (by omega)).trans a4
    conv => lhs; unfold L_X3_fitting_4
    simp (disch := first | assumption | omega) only [l0_7, l0_8, l0_9, l0_10, l0_11, l0_12, l0_13, l0_14, l0_15, l2_0, l2_5, l2_6, l2_7, l2_8, l2_9, l2_12, l2_13, l7_4, l7_5, l7_6, l7_7, l8_0, l8_1, l8_2, l9_1, l9_2, l9_3, l9_4, l4_0_0, l4_0_1, l4_0_2, l4_0_3, l3_0_2, l3_0_3, l3_0_4, l3_0_5, l10_0_0, l1_0_1, l1_0_2, l1_0_3, l1_1_1, l1_1_2, l1_1_3, l1_2_1, l1_2_2, l1_2_3, l5_0_0, l5_0_2, l5_0_3, l5_0_4, l11_0_0, l11_0_5, l11_0_6, l11_0_7, l11_0_8, l11_0_9, l11_0_10, l11_0_11, l11_0_12, l11_0_13, l24_0_0, l24_0_1, l25_0_0, l25_0_1, l12_0_1, l12_0_4, l12_0_5, l12_0_6, l12_0_9, l12_0_10, l12_0_11, l12_0_13, l12_0_14, l12_0_15, l12_0_16, l12_0_17, l12_0_18, l12_0_19, l12_0_23, l12_0_24, l12_0_25, l12_0_27, n_a0, n_a1, n_a2, n_a3, n_a4, n_a5, n_a6, n_a7, n_a8, n_a9, n_a10, n_b0, n_b1, n_b2, n_p0, n_p1, n_p2, n_p3, n_p4, n_s0, n_s1, n_s2, n_s3, n_nm, n20_18, n20_19, n20_20, n20_21, n20_44, n20_45, n20_46, n20_47, n20_48, n20_49, n20_83, n20_84, n20_85, n20_86, n20_87, n20_88, n20_89, n20_90, n20_91, n20_92, n20_93, n20_94, n20_95, n20_96, n20_97, n20_98, n21_2, n21_3, n21_4, n21_5, n21_6, n22_6, n22_7, n22_17, n22_18, n22_19, n22_20, n23_0, n24_0, n25_0, r_a0, w_a0, r_a1, w_a1, r_a2, w_a2, r_a3, w_a3, r_a4, w_a4, r_a5, w_a5, r_a6, w_a6, r_a7, w_a7, r_a8, w_a8, r_a9, w_a9, r_a10, w_a10, r_b0, w_b0, r_b1, w_b1, r_b2, w_b2, r_d, w_d, r_c, w_c, r_e, w_e, r_t, w_t, r_f0, w_f0, r_f1, w_f1, r_f2, w_f2, r_f3, w_f3, r_e0, w_e0, r_e1, w_e1, r_e2, w_e2, r_o7, r_o8, r_o9, r_o10, r_o1, r_o5, r_o6, r_o11, r_o12, r_o21, r_o23, r_p0, r_p1, r_p2, r_s0, r_s1, r_s2, r_s3, i3_add1, i3_add, i3_mul, i3_addl, i3_mull, i3_ladd, i3_lmul, i3_div4, i3_le, i3_lt, i3_eq, i3_lel, i3_lle, i3_ltl, i3_llt, i3_eql, i3_leq, i3_nl, i3_0l, i3_nn, n1_lt, n1_le, xi_i3, xin_i3, xi_lit, xin_lit, xb0, xb1, gd_t, nz4, Option.bind_some, gR_emb, gN_emb, gL_emb, ↓reduceIte, if_true, if_false, not_true_eq_false, not_false_eq_true, eq_self, Nat.not_lt_zero, Nat.zero_le, true_or, or_true, false_or, or_false, true_and, and_true, false_and, and_false, e1]
    rw [if_pos (Nat.le_refl _)]
theorem e_sayingLike (h : Lay M) (hd : d < 5) (hE : InE D P K) (hf : 400 < fu) (hft : ∀ k, k < K → D 23 k = bz (φ k)) (hk : k < K) (hp : p < 20) :
    F_X3_sayingLike fu 0 (i3 k) (i3 p) (emb d D M) = some (i3 (sumF (fun o => φ o && decide (D 20 (o * 20 + p) = D 20 (k * 20 + p))) (tmN D P) K), emb d D M) := by
  have hE' := hE
  obtain ⟨a1, a2, a3, a4, a5, a6, a7, a8⟩ := hE
  unfold F_X3_sayingLike
  refine lpc (fun l i y => L_X3_sayingLike_5 fu l 0 (i3 k) (i3 p) y (i3 i) (emb d D M)) (fun i => i3 (sumF (fun o => φ o && decide (D 20 (o * 20 + p) = D 20 (k * 20 + p))) (tmN D P) i)) K _ ?_ ?_ fu 0 (by omega) (by omega)
  · intro l i hi
    show L_X3_sayingLike_5 fu (l + 1) 0 (i3 k) (i3 p) (i3 (sumF (fun o => φ o && decide (D 20 (o * 20 + p) = D 20 (k * 20 + p))) (tmN D P) i)) (i3 i) (emb d D M) = L_X3_sayingLike_5 fu l 0 (i3 k) (i3 p) (i3 (sumF (fun o => φ o && decide (D 20 (o * 20 + p) = D 20 (k * 20 + p))) (tmN D P) (i + 1))) (i3 (i + 1)) (emb d D M)
    have e6 : D 21 i = i3 (tmN D P i) := a6 i hi
    have e7 := hft i hi
    rw [sumF_s]
    generalize sumF (fun o => φ o && decide (D 20 (o * 20 + p) = D 20 (k * 20 + p))) (tmN D P) i = sm
    conv => lhs; unfold L_X3_sayingLike_5
    simp (disch := first | assumption | omega) only [l0_7, l0_8, l0_9, l0_10, l0_11, l0_12, l0_13, l0_14, l0_15, l2_0, l2_5, l2_6, l2_7, l2_8, l2_9, l2_12, l2_13, l7_4, l7_5, l7_6, l7_7, l8_0, l8_1, l8_2, l9_1, l9_2, l9_3, l9_4, l4_0_0, l4_0_1, l4_0_2, l4_0_3, l3_0_2, l3_0_3, l3_0_4, l3_0_5, l10_0_0, l1_0_1, l1_0_2, l1_0_3, l1_1_1, l1_1_2, l1_1_3, l1_2_1, l1_2_2, l1_2_3, l5_0_0, l5_0_2, l5_0_3, l5_0_4, l11_0_0, l11_0_5, l11_0_6, l11_0_7, l11_0_8, l11_0_9, l11_0_10, l11_0_11, l11_0_12, l11_0_13, l24_0_0, l24_0_1, l25_0_0, l25_0_1, l12_0_1, l12_0_4, l12_0_5, l12_0_6, l12_0_9, l12_0_10, l12_0_11, l12_0_13, l12_0_14, l12_0_15, l12_0_16, l12_0_17, l12_0_18, l12_0_19, l12_0_23, l12_0_24, l12_0_25, l12_0_27, n_a0, n_a1, n_a2, n_a3, n_a4, n_a5, n_a6, n_a7, n_a8, n_a9, n_a10, n_b0, n_b1, n_b2, n_p0, n_p1, n_p2, n_p3, n_p4, n_s0, n_s1, n_s2, n_s3, n_nm, n20_18, n20_19, n20_20, n20_21, n20_44, n20_45, n20_46, n20_47, n20_48, n20_49, n20_83, n20_84, n20_85, n20_86, n20_87, n20_88, n20_89, n20_90, n20_91, n20_92, n20_93, n20_94, n20_95, n20_96, n20_97, n20_98, n21_2, n21_3, n21_4, n21_5, n21_6, n22_6, n22_7, n22_17, n22_18, n22_19, n22_20, n23_0, n24_0, n25_0, r_a0, w_a0, r_a1, w_a1, r_a2, w_a2, r_a3, w_a3, r_a4, w_a4, r_a5, w_a5, r_a6, w_a6, r_a7, w_a7, r_a8, w_a8, r_a9, w_a9, r_a10, w_a10, r_b0, w_b0, r_b1, w_b1, r_b2, w_b2, r_d, w_d, r_c, w_c, r_e, w_e, r_t, w_t, r_f0, w_f0, r_f1, w_f1, r_f2, w_f2, r_f3, w_f3, r_e0, w_e0, r_e1, w_e1, r_e2, w_e2, r_o7, r_o8, r_o9, r_o10, r_o1, r_o5, r_o6, r_o11, r_o12, r_o21, r_o23, r_p0, r_p1, r_p2, r_s0, r_s1, r_s2, r_s3, i3_add1, i3_add, i3_mul, i3_addl, i3_mull, i3_ladd, i3_lmul, i3_div4, i3_le, i3_lt, i3_eq, i3_lel, i3_lle, i3_ltl, i3_llt, i3_eql, i3_leq, i3_nl, i3_0l, i3_nn, n1_lt, n1_le, xi_i3, xin_i3, xi_lit, xin_lit, xb0, xb1, gd_t, nz4, Option.bind_some, gR_emb, gN_emb, gL_emb, ↓reduceIte, if_true, if_false, not_true_eq_false, not_false_eq_true, eq_self, Nat.not_lt_zero, Nat.zero_le, true_or, or_true, false_or, or_false, true_and, and_true, false_and, and_false, a4, e7, bz_0]
    rw [if_neg (by omega)]
    rcases (show φ i = true ∨ φ i = false by cases φ i <;> simp) with e | e
    · by_cases c : D 20 (i * 20 + p) = D 20 (k * 20 + p)
      · simp only [e, c, e6, Bool.true_eq_false, if_false, not_true_eq_false, decide_true, Bool.and_self, if_true, i3_add]
      · simp only [e, c, Bool.true_eq_false, if_false, not_false_eq_true, decide_false, Bool.and_false, Bool.false_eq_true, if_true]
        rfl
    · simp only [e, if_true, Bool.false_and, Bool.false_eq_true, if_false]
      rfl
  · intro l
    show L_X3_sayingLike_5 fu (l + 1) 0 (i3 k) (i3 p) (i3 (sumF (fun o => φ o && decide (D 20 (o * 20 + p) = D 20 (k * 20 + p))) (tmN D P) K)) (i3 K) (emb d D M) = _
    conv => lhs; unfold L_X3_sayingLike_5
    simp (disch := first | assumption | omega) only [l0_7, l0_8, l0_9, l0_10, l0_11, l0_12, l0_13, l0_14, l0_15, l2_0, l2_5, l2_6, l2_7, l2_8, l2_9, l2_12, l2_13, l7_4, l7_5, l7_6, l7_7, l8_0, l8_1, l8_2, l9_1, l9_2, l9_3, l9_4, l4_0_0, l4_0_1, l4_0_2, l4_0_3, l3_0_2, l3_0_3, l3_0_4, l3_0_5, l10_0_0, l1_0_1, l1_0_2, l1_0_3, l1_1_1, l1_1_2, l1_1_3, l1_2_1, l1_2_2, l1_2_3, l5_0_0, l5_0_2, l5_0_3, l5_0_4, l11_0_0, l11_0_5, l11_0_6, l11_0_7, l11_0_8, l11_0_9, l11_0_10, l11_0_11, l11_0_12, l11_0_13, l24_0_0, l24_0_1, l25_0_0, l25_0_1, l12_0_1, l12_0_4, l12_0_5, l12_0_6, l12_0_9, l12_0_10, l12_0_11, l12_0_13, l12_0_14, l12_0_15, l12_0_16, l12_0_17, l12_0_18, l12_0_19, l12_0_23, l12_0_24, l12_0_25, l12_0_27, n_a0, n_a1, n_a2, n_a3, n_a4, n_a5, n_a6, n_a7, n_a8, n_a9, n_a10, n_b0, n_b1, n_b2, n_p0, n_p1, n_p2, n_p3, n_p4, n_s0, n_s1, n_s2, n_s3, n_nm, n20_18, n20_19, n20_20, n20_21, n20_44, n20_45, n20_46, n20_47, n20_48, n20_49, n20_83, n20_84, n20_85, n20_86, n20_87, n20_88, n20_89, n20_90, n20_91, n20_92, n20_93, n20_94, n20_95, n20_96, n20_97, n20_98, n21_2, n21_3, n21_4, n21_5, n21_6, n22_6, n22_7, n22_17, n22_18, n22_19, n22_20, n23_0, n24_0, n25_0, r_a0, w_a0, r_a1, w_a1, r_a2, w_a2, r_a3, w_a3, r_a4, w_a4, r_a5, w_a5, r_a6, w_a6, r_a7, w_a7, r_a8, w_a8, r_a9, w_a9, r_a10, w_a10, r_b0, w_b0, r_b1, w_b1, r_b2, w_b2, r_d, w_d, r_c, w_c, r_e, w_e, r_t, w_t, r_f0, w_f0, r_f1, w_f1, r_f2, w_f2, r_f3, w_f3, r_e0, w_e0, r_e1, w_e1, r_e2, w_e2, r_o7, r_o8, r_o9, r_o10, r_o1, r_o5, r_o6, r_o11, r_o12, r_o21, r_o23, r_p0, r_p1, r_p2, r_s0, r_s1, r_s2, r_s3, i3_add1, i3_add, i3_mul, i3_addl, i3_mull, i3_ladd, i3_lmul, i3_div4, i3_le, i3_lt, i3_eq, i3_lel, i3_lle, i3_ltl, i3_llt, i3_eql, i3_leq, i3_nl, i3_0l, i3_nn, n1_lt, n1_le, xi_i3, xin_i3, xi_lit, xin_lit, xb0, xb1, gd_t, nz4, Option.bind_some, gR_emb, gN_emb, gL_emb, ↓reduceIte, if_true, if_false, not_true_eq_false, not_false_eq_true, eq_self, Nat.not_lt_zero, Nat.zero_le, true_or, or_true, false_or, or_false, true_and, and_true, false_and, and_false, a4]
    rw [if_pos (Nat.le_refl _)]
theorem xmax_i3 (ha : a < 2147483648) (hc : c < 2147483648) : xmaxI (i3 a) (i3 c) = i3 (max a c) := by
  unfold xmaxI
  by_cases w : a < c
  · rw [if_pos ((i3_lt ha hc).mpr w), Nat.max_eq_right (by omega)]
  · rw [if_neg (fun q => w ((i3_lt ha hc).mp q)), Nat.max_eq_left (by omega)]
theorem maF_le {p1 : Nat → Bool} {sl : Nat → Nat} (hl : ∀ m, m < K → sl m ≤ P) : ∀ k, k ≤ K → maF p1 sl k ≤ P
  | 0, _ => Nat.zero_le _
  | k + 1, hk => by
    have ih := maF_le (p1 := p1) hl k (by omega)
    unfold maF
    split
    · exact Nat.max_le.mpr ⟨ih, hl k (by omega)⟩
    · exact ih
/-- how many puts say at page p what map k says, of those that fit -/
def slN (D : xT) (P K : Nat) (φ : Nat → Bool) (p k : Nat) : Nat := sumF (fun o => φ o && decide (D 20 (o * 20 + p) = D 20 (k * 20 + p))) (tmN D P) K
theorem slN_le (hE : InE D P K) : slN D P K φ p k ≤ P := sum_le (InE_t hE).1 (Nat.le_refl _)
theorem e_mostAlike (h : Lay M) (hd : d < 5) (hE : InE D P K) (hf : 400 < fu) (hft : ∀ k, k < K → D 23 k = bz (φ k)) (hp : p < 20) :
    F_X3_mostAlike fu 0 (i3 p) (emb d D M) = some (i3 (maF φ (slN D P K φ p) K), emb d D M) := by
  have hE' := hE
  obtain ⟨a1, a2, a3, a4, a5, a6, a7, a8⟩ := hE
  have hl := fun k => maF_le (p1 := φ) (sl := slN D P K φ p) (K := K) (P := P) (fun m hm => slN_le hE') k
  unfold F_X3_mostAlike
  refine lpc (fun l i y => L_X3_mostAlike_4 fu l 0 (i3 p) y (i3 i) (emb d D M)) (fun i => i3 (maF φ (slN D P K φ p) i)) K _ ?_ ?_ fu 0 (by omega) (by omega)
  · intro l i hi
    show L_X3_mostAlike_4 fu (l + 1) 0 (i3 p) (i3 (maF φ (slN D P K φ p) i)) (i3 i) (emb d D M) = L_X3_mostAlike_4 fu l 0 (i3 p) (i3 (maF φ (slN D P K φ p) (i + 1))) (i3 (i + 1)) (emb d D M)
    have e7 := hft i hi
    have es := e_sayingLike (fu := fu) h hd hE' hf hft hi hp
    have e8 : i3 (sumF (fun o => φ o && decide (D 20 (o * 20 + p) = D 20 (i * 20 + p))) (tmN D P) K) = i3 (slN D P K φ p i) := rfl
    have h1 := slN_le (φ := φ) (p := p) (k := i) hE'
    have h2 := hl i (by omega)
    rw [e8] at es
    conv => lhs; unfold L_X3_mostAlike_4
    simp (disch := first | assumption | omega) only [l0_7, l0_8, l0_9, l0_10, l0_11, l0_12, l0_13, l0_14, l0_15, l2_0, l2_5, l2_6, l2_7, l2_8, l2_9, l2_12, l2_13, l7_4, l7_5, l7_6, l7_7, l8_0, l8_1, l8_2, l9_1, l9_2, l9_3, l9_4, l4_0_0, l4_0_1, l4_0_2, l4_0_3, l3_0_2, l3_0_3, l3_0_4, l3_0_5, l10_0_0, l1_0_1, l1_0_2, l1_0_3, l1_1_1, l1_1_2, l1_1_3, l1_2_1, l1_2_2, l1_2_3, l5_0_0, l5_0_2, l5_0_3, l5_0_4, l11_0_0, l11_0_5, l11_0_6, l11_0_7, l11_0_8, l11_0_9, l11_0_10, l11_0_11, l11_0_12, l11_0_13, l24_0_0, l24_0_1, l25_0_0, l25_0_1, l12_0_1, l12_0_4, l12_0_5, l12_0_6, l12_0_9, l12_0_10, l12_0_11, l12_0_13, l12_0_14, l12_0_15, l12_0_16, l12_0_17, l12_0_18, l12_0_19, l12_0_23, l12_0_24, l12_0_25, l12_0_27, n_a0, n_a1, n_a2, n_a3, n_a4, n_a5, n_a6, n_a7, n_a8, n_a9, n_a10, n_b0, n_b1, n_b2, n_p0, n_p1, n_p2, n_p3, n_p4, n_s0, n_s1, n_s2, n_s3, n_nm, n20_18, n20_19, n20_20, n20_21, n20_44, n20_45, n20_46, n20_47, n20_48, n20_49, n20_83, n20_84, n20_85, n20_86, n20_87, n20_88, n20_89, n20_90, n20_91, n20_92, n20_93, n20_94, n20_95, n20_96, n20_97, n20_98, n21_2, n21_3, n21_4, n21_5, n21_6, n22_6, n22_7, n22_17, n22_18, n22_19, n22_20, n23_0, n24_0, n25_0, r_a0, w_a0, r_a1, w_a1, r_a2, w_a2, r_a3, w_a3, r_a4, w_a4, r_a5, w_a5, r_a6, w_a6, r_a7, w_a7, r_a8, w_a8, r_a9, w_a9, r_a10, w_a10, r_b0, w_b0, r_b1, w_b1, r_b2, w_b2, r_d, w_d, r_c, w_c, r_e, w_e, r_t, w_t, r_f0, w_f0, r_f1, w_f1, r_f2, w_f2, r_f3, w_f3, r_e0, w_e0, r_e1, w_e1, r_e2, w_e2, r_o7, r_o8, r_o9, r_o10, r_o1, r_o5, r_o6, r_o11, r_o12, r_o21, r_o23, r_p0, r_p1, r_p2, r_s0, r_s1, r_s2, r_s3, i3_add1, i3_add, i3_mul, i3_addl, i3_mull, i3_ladd, i3_lmul, i3_div4, i3_le, i3_lt, i3_eq, i3_lel, i3_lle, i3_ltl, i3_llt, i3_eql, i3_leq, i3_nl, i3_0l, i3_nn, n1_lt, n1_le, xi_i3, xin_i3, xi_lit, xin_lit, xb0, xb1, gd_t, nz4, Option.bind_some, gR_emb, gN_emb, gL_emb, ↓reduceIte, if_true, if_false, not_true_eq_false, not_false_eq_true, eq_self, Nat.not_lt_zero, Nat.zero_le, true_or, or_true, false_or, or_false, true_and, and_true, false_and, and_false, a4, e7, bz_0]
    rw [if_neg (by omega), maF_s]
    cases e : φ i with
    | false => rw [if_pos rfl, if_neg (by decide)]
    | true =>
      rw [if_neg (by decide), es]
      simp only [Option.bind_some]
      rw [xmax_i3 (by omega) (by omega)]
      simp only [if_true]
  · intro l
    show L_X3_mostAlike_4 fu (l + 1) 0 (i3 p) (i3 (maF φ (slN D P K φ p) K)) (i3 K) (emb d D M) = _
    conv => lhs; unfold L_X3_mostAlike_4
    simp (disch := first | assumption | omega) only [l0_7, l0_8, l0_9, l0_10, l0_11, l0_12, l0_13, l0_14, l0_15, l2_0, l2_5, l2_6, l2_7, l2_8, l2_9, l2_12, l2_13, l7_4, l7_5, l7_6, l7_7, l8_0, l8_1, l8_2, l9_1, l9_2, l9_3, l9_4, l4_0_0, l4_0_1, l4_0_2, l4_0_3, l3_0_2, l3_0_3, l3_0_4, l3_0_5, l10_0_0, l1_0_1, l1_0_2, l1_0_3, l1_1_1, l1_1_2, l1_1_3, l1_2_1, l1_2_2, l1_2_3, l5_0_0, l5_0_2, l5_0_3, l5_0_4, l11_0_0, l11_0_5, l11_0_6, l11_0_7, l11_0_8, l11_0_9, l11_0_10, l11_0_11, l11_0_12, l11_0_13, l24_0_0, l24_0_1, l25_0_0, l25_0_1, l12_0_1, l12_0_4, l12_0_5, l12_0_6, l12_0_9, l12_0_10, l12_0_11, l12_0_13, l12_0_14, l12_0_15, l12_0_16, l12_0_17, l12_0_18, l12_0_19, l12_0_23, l12_0_24, l12_0_25, l12_0_27, n_a0, n_a1, n_a2, n_a3, n_a4, n_a5, n_a6, n_a7, n_a8, n_a9, n_a10, n_b0, n_b1, n_b2, n_p0, n_p1, n_p2, n_p3, n_p4, n_s0, n_s1, n_s2, n_s3, n_nm, n20_18, n20_19, n20_20, n20_21, n20_44, n20_45, n20_46, n20_47, n20_48, n20_49, n20_83, n20_84, n20_85, n20_86, n20_87, n20_88, n20_89, n20_90, n20_91, n20_92, n20_93, n20_94, n20_95, n20_96, n20_97, n20_98, n21_2, n21_3, n21_4, n21_5, n21_6, n22_6, n22_7, n22_17, n22_18, n22_19, n22_20, n23_0, n24_0, n25_0, r_a0, w_a0, r_a1, w_a1, r_a2, w_a2, r_a3, w_a3, r_a4, w_a4, r_a5, w_a5, r_a6, w_a6, r_a7, w_a7, r_a8, w_a8, r_a9, w_a9, r_a10, w_a10, r_b0, w_b0, r_b1, w_b1, r_b2, w_b2, r_d, w_d, r_c, w_c, r_e, w_e, r_t, w_t, r_f0, w_f0, r_f1, w_f1, r_f2, w_f2, r_f3, w_f3, r_e0, w_e0, r_e1, w_e1, r_e2, w_e2, r_o7, r_o8, r_o9, r_o10, r_o1, r_o5, r_o6, r_o11, r_o12, r_o21, r_o23, r_p0, r_p1, r_p2, r_s0, r_s1, r_s2, r_s3, i3_add1, i3_add, i3_mul, i3_addl, i3_mull, i3_ladd, i3_lmul, i3_div4, i3_le, i3_lt, i3_eq, i3_lel, i3_lle, i3_ltl, i3_llt, i3_eql, i3_leq, i3_nl, i3_0l, i3_nn, n1_lt, n1_le, xi_i3, xin_i3, xi_lit, xin_lit, xb0, xb1, gd_t, nz4, Option.bind_some, gR_emb, gN_emb, gL_emb, ↓reduceIte, if_true, if_false, not_true_eq_false, not_false_eq_true, eq_self, Nat.not_lt_zero, Nat.zero_le, true_or, or_true, false_or, or_false, true_and, and_true, false_and, and_false, a4]
    rw [if_pos (Nat.le_refl _)]
theorem e_best12 (h : Lay M) (hd : d < 5) (ha : a < 2) (hC : Cfg C R a M) (hE : InE D P K) (hf : 400 < fu) (hft : ∀ k, k < K → D 23 k = bz (φ k)) (hl0 : l0 ≤ 288) :
    L_X3_bestPage_12 fu fu 0 (some a) (i3 l0) (-1) 0 (emb d D M) = some ((lkF l0 (fun p => maF φ (slN D P K φ p) K) (okP C) 20).2, emb d D M) := by
  have hC2 : Cfg C R a (emb d D M) := Cfg_emb ha hC
  have hP := hE.1
  have hm : ∀ p, maF φ (slN D P K φ p) K ≤ 288 := fun p => Nat.le_trans (maF_le (fun m hm => slN_le hE) K (Nat.le_refl _)) hP
  have hlk : ∀ k, (lkF l0 (fun p => maF φ (slN D P K φ p) K) (okP C) k).1 ≤ 288 := by
    intro k
    induction k with
    | zero => exact hl0
    | succ k ih =>
      unfold lkF
      split
      · split
        · exact hm k
        · exact ih
      · exact ih
  refine lpc (fun l i (y : Nat × Int32) => L_X3_bestPage_12 fu l 0 (some a) (i3 y.1) y.2 (i3 i) (emb d D M)) (fun i => lkF l0 (fun p => maF φ (slN D P K φ p) K) (okP C) i) 20 _ ?_ ?_ fu 0 (by omega) (by omega)
  · intro l i hi
    show L_X3_bestPage_12 fu (l + 1) 0 (some a) (i3 (lkF l0 (fun p => maF φ (slN D P K φ p) K) (okP C) i).1) (lkF l0 (fun p => maF φ (slN D P K φ p) K) (okP C) i).2 (i3 i) (emb d D M) = L_X3_bestPage_12 fu l 0 (some a) (i3 (lkF l0 (fun p => maF φ (slN D P K φ p) K) (okP C) (i + 1)).1) (lkF l0 (fun p => maF φ (slN D P K φ p) K) (okP C) (i + 1)).2 (i3 (i + 1)) (emb d D M)
    have d4 : i3 i / 4 = i3 (i / 4) := by rw [show (4 : Int32) = i3 4 from rfl, i3_div (by omega) (by omega)]
    have d5 : i3 i - i3 (i / 4) * 4 = i3 (i % 4) := by
      rw [show (4 : Int32) = i3 4 from rfl, i3_mul, i3_sub (by omega)]
      congr 1; omega
    have h1 := hlk i
    have h2 := hm i
    have em := e_mostAlike (fu := fu) h hd hE hf hft hi
    have eok : okP C i = isPageB C (i3 (i / 4)) (i3 (i % 4)) := rfl
    conv => lhs; unfold L_X3_bestPage_12
    rw [if_neg (fun q => by have := (i3_le (a := 20) (by omega) (by omega)).mp q; omega), nz4, gd_t, gd_t, d4, d5]
    simp only [Option.bind_some]
    rw [e_isPage (Lay_emb h) ha hC2]
    simp only [Option.bind_some, bz_0]
    rw [← eok]
    rw [lkF_s]
    cases e : okP C i with
    | false => rw [if_pos rfl, if_neg (by decide), i3_add1]
    | true =>
      rw [if_neg (by decide), if_pos rfl, em]
      simp only [Option.bind_some]
      by_cases cm : maF φ (slN D P K φ i) K < (lkF l0 (fun p => maF φ (slN D P K φ p) K) (okP C) i).1
      · rw [if_neg (fun q => by have := (i3_le (by omega) (by omega)).mp q; omega), if_pos cm, i3_add1]
      · rw [if_pos ((i3_le (by omega) (by omega)).mpr (by omega)), if_neg cm, i3_add1]
  · intro l
    show L_X3_bestPage_12 fu (l + 1) 0 (some a) _ _ (i3 20) (emb d D M) = _
    conv => lhs; unfold L_X3_bestPage_12
    rw [if_pos (show (20 : Int32) ≤ i3 20 from Int32.le_refl _)]
end
