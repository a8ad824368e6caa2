/-! ===== a disk starts: the class ===== -/
/-- a chip as it starts -/
def cstT (C : xC) (D : xT) : xT := fun j k =>
  if j = 0 ∧ k < 6 then 0 else if j = 1 ∧ k < 6 then i3 (C 0 1) else if j = 2 ∧ k < 36 then 0 else if (3 ≤ j ∧ j ≤ 6) ∧ k < 36 then -1
  else if j = 15 ∧ k = 0 then i3 (C 0 0) else if j = 15 ∧ k = 1 then i3 (C 0 1) else if j = 15 ∧ (k = 2 ∨ k = 3) then i3 (C 0 0 * C 0 1) else if j = 15 ∧ k = 4 then -1 else if j = 15 ∧ (k = 5 ∨ k = 6) then 0 else D j k
section
variable {M : xM} {D E X X' : xT} {C : xC} {R B S g : Nat → Int32} {d fu n m i j o p q a c k l s x K P l0 : Nat}
theorem emb_sR {o : Option Nat} : sR (emb d D M) c s k o = emb d D (sR M c s k o) := rfl
theorem Lay_sR4 {o : Option Nat} (h : Lay M) : Lay (sR M 2 d 4 o) := by
  refine ⟨fun c s k v e => ?_, h.2⟩
  show (if c = 2 ∧ s = d ∧ k = 4 then o else gR M c s k) = v
  by_cases w : c = 2 ∧ s = d ∧ k = 4
  · exfalso
    obtain ⟨rfl, rfl, rfl⟩ := w
    unfold rT at e
    rw [if_neg (by decide), if_pos rfl] at e
    by_cases w2 : s < 5
    · rw [if_pos w2] at e; simp at e
    · rw [if_neg w2] at e; cases e
  · rw [if_neg w]; exact h.1 c s k v e
theorem Cfg_sR {o : Option Nat} (hC : Cfg C R a M) : Cfg C R a (sR M c s k o) := hC
theorem st_split : forgetT (cstT C (up (up (up (up D 14 1 1) 14 2 0) 14 3 0) 14 10 0)) = startT C D := by
  funext j k
  unfold startT forgetT cstT
  simp only [up_at]
  by_cases c0 : j = 0
  · subst c0; simp
  by_cases c1 : j = 1
  · subst c1; simp
  by_cases c2 : j = 2
  · subst c2; simp
  by_cases c3 : 3 ≤ j ∧ j ≤ 6
  · have q9 : ¬ j = 9 := by omega
    have q11 : ¬ j = 11 := by omega
    have q12 : ¬ j = 12 := by omega
    have q14 : ¬ j = 14 := by omega
    have q15 : ¬ j = 15 := by omega
    simp [c0, c1, c2, c3, q9, q11, q12, q14, q15]
  by_cases c9 : j = 9
  · subst c9; simp
  by_cases c11 : j = 11
  · subst c11; simp
  by_cases c12 : j = 12
  · subst c12; simp
  by_cases c14 : j = 14
  · subst c14
    by_cases k1 : k = 1
    · subst k1; simp
    by_cases k2 : k = 2
    · subst k2; simp
    by_cases k3 : k = 3
    · subst k3; simp
    by_cases k10 : k = 10
    · subst k10; simp
    by_cases k11 : k = 11
    · subst k11; simp
    simp [k1, k2, k3, k10, k11]
  by_cases c15 : j = 15
  · subst c15; simp
  simp [c0, c1, c2, c3, c9, c11, c12, c14, c15]
theorem xm6 (h : n ≤ 6) : xmaxI 0 (xminI (i3 n) 6) = i3 n := by
  match n, h with
  | 0, _ => decide
  | 1, _ => decide
  | 2, _ => decide
  | 3, _ => decide
  | 4, _ => decide
  | 5, _ => decide
  | 6, _ => decide
theorem e_st103 (h : Lay M) (hd : d < 5) (hf : 100 < fu) : L_X0_start_103 fu fu d 0 (emb d E M) = some (emb d (fun j k => if j = 2 ∧ k < 36 then 0 else if (3 ≤ j ∧ j ≤ 6) ∧ k < 36 then -1 else E j k) M) := by
  have key := lpc (fun l i (Y : xT) => L_X0_start_103 fu l d (i3 i) (emb d Y M)) (fun i => (fun j k => if j = 2 ∧ k < i then 0 else if (3 ≤ j ∧ j ≤ 6) ∧ k < i then -1 else E j k)) 36 (some (emb d (fun j k => if j = 2 ∧ k < 36 then 0 else if (3 ≤ j ∧ j ≤ 6) ∧ k < 36 then -1 else E j k) M)) ?_ ?_ fu 0 (by omega) (by omega)
  · have g0 : (fun j k => if j = 2 ∧ k < 0 then 0 else if (3 ≤ j ∧ j ≤ 6) ∧ k < 0 then -1 else E j k : xT) = E := by funext j k; rw [if_neg (by omega), if_neg (by omega)]
    simp only [g0] at key
    exact key
  · intro l i hi
    show L_X0_start_103 fu (l + 1) d (i3 i) (emb d _ M) = L_X0_start_103 fu l d (i3 (i + 1)) (emb d _ M)
    conv => lhs; unfold L_X0_start_103
    rw [if_neg (fun q => by have := (i3_le (a := 36) (by omega) (by omega)).mp q; omega), e_fill h hd hi]
    simp only [Option.bind_some, i3_add1]
    congr 2
    funext j k
    unfold fillT
    simp only [up_at]
    by_cases w : k = i
    · subst w
      by_cases c2 : j = 2
      · subst c2; simp
      · by_cases c3 : 3 ≤ j ∧ j ≤ 6
        · have : j = 3 ∨ j = 4 ∨ j = 5 ∨ j = 6 := by omega
          rcases this with rfl | rfl | rfl | rfl <;> simp
        · have q3 : ¬ j = 3 := by omega
          have q4 : ¬ j = 4 := by omega
          have q5 : ¬ j = 5 := by omega
          have q6 : ¬ j = 6 := by omega
          simp [c2, c3, q3, q4, q5, q6]
    · have q : (k < i + 1) = (k < i) := by apply propext; omega
      simp [w, q]
  · intro l
    show L_X0_start_103 fu (l + 1) d (i3 36) (emb d _ M) = _
    conv => lhs; unfold L_X0_start_103
    rw [if_pos (show (36 : Int32) ≤ i3 36 from Int32.le_refl _)]
theorem e_st72 (h : Lay M) (hd : d < 5) (hf : 100 < fu) : L_X0_start_72 fu fu d 0 (emb d E M) = L_X0_start_103 fu fu d 0 (emb d (fun j k => if j = 0 ∧ k < 6 then 0 else if j = 1 ∧ k < 6 then E 15 1 else E j k) M) := by
  have key := lpc (fun l i (Y : xT) => L_X0_start_72 fu l d (i3 i) (emb d Y M)) (fun i => (fun j k => if j = 0 ∧ k < i then 0 else if j = 1 ∧ k < i then E 15 1 else E j k)) 6 (L_X0_start_103 fu fu d 0 (emb d (fun j k => if j = 0 ∧ k < 6 then 0 else if j = 1 ∧ k < 6 then E 15 1 else E j k) M)) ?_ ?_ fu 0 (by omega) (by omega)
  · have g0 : (fun j k => if j = 0 ∧ k < 0 then 0 else if j = 1 ∧ k < 0 then E 15 1 else E j k : xT) = E := by funext j k; rw [if_neg (by omega), if_neg (by omega)]
    simp only [g0] at key
    exact key
  · intro l i hi
    show L_X0_start_72 fu (l + 1) d (i3 i) (emb d _ M) = L_X0_start_72 fu l d (i3 (i + 1)) (emb d _ M)
    conv => lhs; unfold L_X0_start_72
    simp (disch := first | assumption | omega) only [l0_7, l0_8, l0_9, l0_10, l0_11, l0_12, l0_13, l0_14, l0_15, l2_0, l2_5, l2_6, l2_7, l2_8, l2_9, l2_12, l2_13, l7_4, l7_5, l7_6, l7_7, l8_0, l8_1, l8_2, l9_1, l9_2, l9_3, l9_4, l4_0_0, l4_0_1, l4_0_2, l4_0_3, l3_0_2, l3_0_3, l3_0_4, l3_0_5, l10_0_0, l1_0_1, l1_0_2, l1_0_3, l1_1_1, l1_1_2, l1_1_3, l1_2_1, l1_2_2, l1_2_3, l5_0_0, l5_0_2, l5_0_3, l5_0_4, l11_0_0, l11_0_5, l11_0_6, l11_0_7, l11_0_8, l11_0_9, l11_0_10, l11_0_11, l11_0_12, l11_0_13, l24_0_0, l24_0_1, l25_0_0, l25_0_1, l12_0_1, l12_0_4, l12_0_5, l12_0_6, l12_0_9, l12_0_10, l12_0_11, l12_0_13, l12_0_14, l12_0_15, l12_0_16, l12_0_17, l12_0_18, l12_0_19, l12_0_23, l12_0_24, l12_0_25, l12_0_27, n_a0, n_a1, n_a2, n_a3, n_a4, n_a5, n_a6, n_a7, n_a8, n_a9, n_a10, n_b0, n_b1, n_b2, n_p0, n_p1, n_p2, n_p3, n_p4, n_s0, n_s1, n_s2, n_s3, n_nm, n20_18, n20_19, n20_20, n20_21, n20_44, n20_45, n20_46, n20_47, n20_48, n20_49, n20_83, n20_84, n20_85, n20_86, n20_87, n20_88, n20_89, n20_90, n20_91, n20_92, n20_93, n20_94, n20_95, n20_96, n20_97, n20_98, n21_2, n21_3, n21_4, n21_5, n21_6, n22_6, n22_7, n22_17, n22_18, n22_19, n22_20, n23_0, n24_0, n25_0, r_a0, w_a0, r_a1, w_a1, r_a2, w_a2, r_a3, w_a3, r_a4, w_a4, r_a5, w_a5, r_a6, w_a6, r_a7, w_a7, r_a8, w_a8, r_a9, w_a9, r_a10, w_a10, r_b0, w_b0, r_b1, w_b1, r_b2, w_b2, r_d, w_d, r_c, w_c, r_e, w_e, r_t, w_t, r_f0, w_f0, r_f1, w_f1, r_f2, w_f2, r_f3, w_f3, r_e0, w_e0, r_e1, w_e1, r_e2, w_e2, r_o7, r_o8, r_o9, r_o10, r_o1, r_o5, r_o6, r_o11, r_o12, r_o21, r_o23, r_p0, r_p1, r_p2, r_s0, r_s1, r_s2, r_s3, i3_add1, i3_add, i3_mul, i3_addl, i3_mull, i3_ladd, i3_lmul, i3_div4, i3_le, i3_lt, i3_eq, i3_lel, i3_lle, i3_ltl, i3_llt, i3_eql, i3_leq, i3_nl, i3_0l, i3_nn, n1_lt, n1_le, xi_i3, xin_i3, xi_lit, xin_lit, xb0, xb1, gd_t, nz4, Option.bind_some, gR_emb, gN_emb, gL_emb, ↓reduceIte, if_true, if_false, not_true_eq_false, not_false_eq_true, eq_self, Nat.not_lt_zero, Nat.zero_le, true_or, or_true, false_or, or_false, true_and, and_true, false_and, and_false]
    rw [if_neg (by omega)]
    congr 2
    funext j k
    simp only [up_at]
    by_cases w : k = i
    · subst w
      by_cases c0 : j = 0
      · subst c0; simp
      · by_cases c1 : j = 1
        · subst c1; simp
        · simp [c0, c1]
    · have q : (k < i + 1) = (k < i) := by apply propext; omega
      simp [w, q]
  · intro l
    show L_X0_start_72 fu (l + 1) d (i3 6) (emb d _ M) = _
    conv => lhs; unfold L_X0_start_72
    rw [if_pos (show (6 : Int32) ≤ i3 6 from Int32.le_refl _)]
theorem e_cstart (h : Lay M) (hd : d < 5) (hC : Cfg C R a M) (hf : 100 < fu) : F_X0_start fu d (some a) (emb d D M) = some (emb d (cstT C D) M) := by
  obtain ⟨c1, c2, c3, c4, c5, c6, c7, c8, c9, c10, c11, c12⟩ := hC
  have h36 := mul36 c1 c2
  unfold F_X0_start
  simp (disch := first | assumption | omega) only [l0_7, l0_8, l0_9, l0_10, l0_11, l0_12, l0_13, l0_14, l0_15, l2_0, l2_5, l2_6, l2_7, l2_8, l2_9, l2_12, l2_13, l7_4, l7_5, l7_6, l7_7, l8_0, l8_1, l8_2, l9_1, l9_2, l9_3, l9_4, l4_0_0, l4_0_1, l4_0_2, l4_0_3, l3_0_2, l3_0_3, l3_0_4, l3_0_5, l10_0_0, l1_0_1, l1_0_2, l1_0_3, l1_1_1, l1_1_2, l1_1_3, l1_2_1, l1_2_2, l1_2_3, l5_0_0, l5_0_2, l5_0_3, l5_0_4, l11_0_0, l11_0_5, l11_0_6, l11_0_7, l11_0_8, l11_0_9, l11_0_10, l11_0_11, l11_0_12, l11_0_13, l24_0_0, l24_0_1, l25_0_0, l25_0_1, l12_0_1, l12_0_4, l12_0_5, l12_0_6, l12_0_9, l12_0_10, l12_0_11, l12_0_13, l12_0_14, l12_0_15, l12_0_16, l12_0_17, l12_0_18, l12_0_19, l12_0_23, l12_0_24, l12_0_25, l12_0_27, n_a0, n_a1, n_a2, n_a3, n_a4, n_a5, n_a6, n_a7, n_a8, n_a9, n_a10, n_b0, n_b1, n_b2, n_p0, n_p1, n_p2, n_p3, n_p4, n_s0, n_s1, n_s2, n_s3, n_nm, n20_18, n20_19, n20_20, n20_21, n20_44, n20_45, n20_46, n20_47, n20_48, n20_49, n20_83, n20_84, n20_85, n20_86, n20_87, n20_88, n20_89, n20_90, n20_91, n20_92, n20_93, n20_94, n20_95, n20_96, n20_97, n20_98, n21_2, n21_3, n21_4, n21_5, n21_6, n22_6, n22_7, n22_17, n22_18, n22_19, n22_20, n23_0, n24_0, n25_0, r_a0, w_a0, r_a1, w_a1, r_a2, w_a2, r_a3, w_a3, r_a4, w_a4, r_a5, w_a5, r_a6, w_a6, r_a7, w_a7, r_a8, w_a8, r_a9, w_a9, r_a10, w_a10, r_b0, w_b0, r_b1, w_b1, r_b2, w_b2, r_d, w_d, r_c, w_c, r_e, w_e, r_t, w_t, r_f0, w_f0, r_f1, w_f1, r_f2, w_f2, r_f3, w_f3, r_e0, w_e0, r_e1, w_e1, r_e2, w_e2, r_o7, r_o8, r_o9, r_o10, r_o1, r_o5, r_o6, r_o11, r_o12, r_o21, r_o23, r_p0, r_p1, r_p2, r_s0, r_s1, r_s2, r_s3, i3_add1, i3_add, i3_mul, i3_addl, i3_mull, i3_ladd, i3_lmul, i3_div4, i3_le, i3_lt, i3_eq, i3_lel, i3_lle, i3_ltl, i3_llt, i3_eql, i3_leq, i3_nl, i3_0l, i3_nn, n1_lt, n1_le, xi_i3, xin_i3, xi_lit, xin_lit, xb0, xb1, gd_t, nz4, Option.bind_some, gR_emb, gN_emb, gL_emb, ↓reduceIte, if_true, if_false, not_true_eq_false, not_false_eq_true, eq_self, Nat.not_lt_zero, Nat.zero_le, true_or, or_true, false_or, or_false, true_and, and_true, false_and, and_false, c6, c7, xm6 c1, xm6 c2, up_eq, up_ne (show (15 : Nat) ≠ 15 ∨ (0 : Nat) ≠ 1 by omega)]
  rw [e_st72 h hd hf, e_st103 h hd hf]
  congr 2
  funext j k
  unfold cstT
  simp only [up_at]
  by_cases k0 : j = 0
  · subst k0; simp
  by_cases k1 : j = 1
  · subst k1; simp
  by_cases k2 : j = 2
  · subst k2; simp
  by_cases k3 : 3 ≤ j ∧ j ≤ 6
  · have q15 : ¬ j = 15 := by omega
    simp [k0, k1, k2, k3, q15]
  by_cases k15 : j = 15
  · subst k15
    by_cases w0 : k = 0
    · subst w0; simp
    by_cases w1 : k = 1
    · subst w1; simp
    by_cases w2 : k = 2
    · subst w2; simp
    by_cases w3 : k = 3
    · subst w3; simp
    by_cases w4 : k = 4
    · subst w4; simp
    by_cases w5 : k = 5
    · subst w5; simp
    by_cases w6 : k = 6
    · subst w6; simp
    simp [w0, w1, w2, w3, w4, w5, w6]
  simp [k0, k1, k2, k3, k15]
theorem e_start (h : Lay M) (hd : d < 5) (hC : Cfg C R a M) (hf : 100 < fu) : F_X2_start fu d (some a) (emb d D M) = some (emb d (startT C D) (sR M 2 d 4 (some a))) := by
  have h2 : Lay (sR M 2 d 4 (some a)) := Lay_sR4 h
  unfold F_X2_start
  rw [emb_sR]
  simp (disch := first | assumption | omega) only [l0_7, l0_8, l0_9, l0_10, l0_11, l0_12, l0_13, l0_14, l0_15, l2_0, l2_5, l2_6, l2_7, l2_8, l2_9, l2_12, l2_13, l7_4, l7_5, l7_6, l7_7, l8_0, l8_1, l8_2, l9_1, l9_2, l9_3, l9_4, l4_0_0, l4_0_1, l4_0_2, l4_0_3, l3_0_2, l3_0_3, l3_0_4, l3_0_5, l10_0_0, l1_0_1, l1_0_2, l1_0_3, l1_1_1, l1_1_2, l1_1_3, l1_2_1, l1_2_2, l1_2_3, l5_0_0, l5_0_2, l5_0_3, l5_0_4, l11_0_0, l11_0_5, l11_0_6, l11_0_7, l11_0_8, l11_0_9, l11_0_10, l11_0_11, l11_0_12, l11_0_13, l24_0_0, l24_0_1, l25_0_0, l25_0_1, l12_0_1, l12_0_4, l12_0_5, l12_0_6, l12_0_9, l12_0_10, l12_0_11, l12_0_13, l12_0_14, l12_0_15, l12_0_16, l12_0_17, l12_0_18, l12_0_19, l12_0_23, l12_0_24, l12_0_25, l12_0_27, n_a0, n_a1, n_a2, n_a3, n_a4, n_a5, n_a6, n_a7, n_a8, n_a9, n_a10, n_b0, n_b1, n_b2, n_p0, n_p1, n_p2, n_p3, n_p4, n_s0, n_s1, n_s2, n_s3, n_nm, n20_18, n20_19, n20_20, n20_21, n20_44, n20_45, n20_46, n20_47, n20_48, n20_49, n20_83, n20_84, n20_85, n20_86, n20_87, n20_88, n20_89, n20_90, n20_91, n20_92, n20_93, n20_94, n20_95, n20_96, n20_97, n20_98, n21_2, n21_3, n21_4, n21_5, n21_6, n22_6, n22_7, n22_17, n22_18, n22_19, n22_20, n23_0, n24_0, n25_0, r_a0, w_a0, r_a1, w_a1, r_a2, w_a2, r_a3, w_a3, r_a4, w_a4, r_a5, w_a5, r_a6, w_a6, r_a7, w_a7, r_a8, w_a8, r_a9, w_a9, r_a10, w_a10, r_b0, w_b0, r_b1, w_b1, r_b2, w_b2, r_d, w_d, r_c, w_c, r_e, w_e, r_t, w_t, r_f0, w_f0, r_f1, w_f1, r_f2, w_f2, r_f3, w_f3, r_e0, w_e0, r_e1, w_e1, r_e2, w_e2, r_o7, r_o8, r_o9, r_o10, r_o1, r_o5, r_o6, r_o11, r_o12, r_o21, r_o23, r_p0, r_p1, r_p2, r_s0, r_s1, r_s2, r_s3, i3_add1, i3_add, i3_mul, i3_addl, i3_mull, i3_ladd, i3_lmul, i3_div4, i3_le, i3_lt, i3_eq, i3_lel, i3_lle, i3_ltl, i3_llt, i3_eql, i3_leq, i3_nl, i3_0l, i3_nn, n1_lt, n1_le, xi_i3, xin_i3, xi_lit, xin_lit, xb0, xb1, gd_t, nz4, Option.bind_some, gR_emb, gN_emb, gL_emb, ↓reduceIte, if_true, if_false, not_true_eq_false, not_false_eq_true, eq_self, Nat.not_lt_zero, Nat.zero_le, true_or, or_true, false_or, or_false, true_and, and_true, false_and, and_false]
  rw [e_cstart h2 hd (Cfg_sR hC) hf]
  simp only [Option.bind_some]
  rw [e_forget h2 hd hf]
  simp only [Option.bind_some]
  rw [st_split]
end
