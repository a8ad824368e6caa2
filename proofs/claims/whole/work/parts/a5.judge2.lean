/-! ===== the judge's run: its lines ===== -/
/-- how many half done by the class's count -/
def hcF (C : xC) (R : Nat → Int32) (a : Nat) (W : Nat → Nat) (V : Nat → Nat → Int32) (D : xT) : Nat → Nat
  | 0 => 0
  | i + 1 => hcF C R a W V D i + cnt (fun j => hfC (wkN C R a W V D (i + 1)) (wkN C R a W V D i 17) (wkP C R a W V D i + j)) (wkP C R a W V D (i + 1) - wkP C R a W V D i)
section
variable {M : xM} {D E X X' : xT} {C : xC} {R B S g g' : Nat → Int32} {d fu n m i j o p q a c k l s w K P L : Nat} {f hh v x y : Int32} {W : Nat → Nat} {V : Nat → Nat → Int32}
theorem hcF_le (hB : CB C) (hE : InE (startT C D) 0 0) : ∀ i, i ≤ 24 → hcF C R a W V D i ≤ wkP C R a W V D i
  | 0, _ => Nat.zero_le _
  | i + 1, hi => by
    have ih := hcF_le hB hE i (by omega)
    have hm := wkP_mono (R := R) (a := a) (W := W) (V := V) (i := i) (m := 1) hB hE (by omega)
    have hc := cnt_le (fun j => hfC (wkN C R a W V D (i + 1)) (wkN C R a W V D i 17) (wkP C R a W V D i + j)) (wkP C R a W V D (i + 1) - wkP C R a W V D i)
    unfold hcF
    omega
theorem InE_ok (hE : InE D P K) : OkE D := ⟨P, K, hE.1, hE.2.1, hE.2.2.1, hE.2.2.2.1⟩
theorem e_run171 (h : Lay M) : J_X5_run_171 fu 0 (emb 2 D (jM M f hh g)) = some (emb 2 D (jM M f hh (D 17))) := by
  have hL : Lay (jM M f hh g) := h
  have w : xcpok (i3 0) (i3 0) (i3 20) 20 20 = true := xcpok_i3 (by omega) (by omega) (by omega) (by omega)
  unfold J_X5_run_171
  simp (disch := first | assumption | omega) only [l0_7, l0_8, l0_9, l0_10, l0_11, l0_12, l0_13, l0_14, l0_15, l2_0, l2_5, l2_6, l2_7, l2_8, l2_9, l2_12, l2_13, l7_4, l7_5, l7_6, l7_7, l8_0, l8_1, l8_2, l9_1, l9_2, l9_3, l9_4, l4_0_0, l4_0_1, l4_0_2, l4_0_3, l3_0_2, l3_0_3, l3_0_4, l3_0_5, l10_0_0, l1_0_1, l1_0_2, l1_0_3, l1_1_1, l1_1_2, l1_1_3, l1_2_1, l1_2_2, l1_2_3, l5_0_0, l5_0_2, l5_0_3, l5_0_4, l11_0_0, l11_0_5, l11_0_6, l11_0_7, l11_0_8, l11_0_9, l11_0_10, l11_0_11, l11_0_12, l11_0_13, l24_0_0, l24_0_1, l25_0_0, l25_0_1, l12_0_1, l12_0_4, l12_0_5, l12_0_6, l12_0_9, l12_0_10, l12_0_11, l12_0_13, l12_0_14, l12_0_15, l12_0_16, l12_0_17, l12_0_18, l12_0_19, l12_0_23, l12_0_24, l12_0_25, l12_0_27, n_a0, n_a1, n_a2, n_a3, n_a4, n_a5, n_a6, n_a7, n_a8, n_a9, n_a10, n_b0, n_b1, n_b2, n_p0, n_p1, n_p2, n_p3, n_p4, n_s0, n_s1, n_s2, n_s3, n_nm, n20_18, n20_19, n20_20, n20_21, n20_44, n20_45, n20_46, n20_47, n20_48, n20_49, n20_83, n20_84, n20_85, n20_86, n20_87, n20_88, n20_89, n20_90, n20_91, n20_92, n20_93, n20_94, n20_95, n20_96, n20_97, n20_98, n21_2, n21_3, n21_4, n21_5, n21_6, n22_6, n22_7, n22_17, n22_18, n22_19, n22_20, n23_0, n24_0, n25_0, r_a0, w_a0, r_a1, w_a1, r_a2, w_a2, r_a3, w_a3, r_a4, w_a4, r_a5, w_a5, r_a6, w_a6, r_a7, w_a7, r_a8, w_a8, r_a9, w_a9, r_a10, w_a10, r_b0, w_b0, r_b1, w_b1, r_b2, w_b2, r_d, w_d, r_c, w_c, r_e, w_e, r_t, w_t, r_f0, w_f0, r_f1, w_f1, r_f2, w_f2, r_f3, w_f3, r_e0, w_e0, r_e1, w_e1, r_e2, w_e2, r_o7, r_o8, r_o9, r_o10, r_o1, r_o5, r_o6, r_o11, r_o12, r_o21, r_o23, r_p0, r_p1, r_p2, r_s0, r_s1, r_s2, r_s3, i3_add1, i3_add, i3_mul, i3_addl, i3_mull, i3_ladd, i3_lmul, i3_div4, i3_le, i3_lt, i3_eq, i3_lel, i3_lle, i3_ltl, i3_llt, i3_eql, i3_leq, i3_nl, i3_0l, i3_nn, n1_lt, n1_le, xi_i3, xin_i3, xi_lit, xin_lit, xb0, xb1, gd_t, nz4, Option.bind_some, gR_emb, gN_emb, gL_emb, ↓reduceIte, if_true, if_false, not_true_eq_false, not_false_eq_true, eq_self, Nat.not_lt_zero, Nat.zero_le, true_or, or_true, false_or, or_false, true_and, and_true, false_and, and_false]
  rw [show xcpok 0 0 20 20 20 = true from w, gd_t, j_cp (by omega)]
theorem e_run145 (h : Lay M) (hB : CB C) (hE : InE (startT C D) 0 0) (hi : i < n) (hn : n ≤ 24) (hf : 1100 < fu) {kk : Nat → Option Nat → Int32 → xM → Option xM} :
    J_X5_run_145 fu kk 0 (some w) (i3 i) (i3 (wkP C R a W V D i)) (emb 2 (didT C R a true (wkN C R a W V D i) (W i) (V i 0) (V i 1) (V i 2)).2 (jM M f (i3 (hcF C R a W V D i)) (wkN C R a W V D i 17))) =
      kk 0 (some w) (i3 (i + 1)) (emb 2 (wkN C R a W V D (i + 1)) (jM M f (i3 (hcF C R a W V D (i + 1))) (wkN C R a W V D i 17))) := by
  have hL : ∀ f hh g, Lay (jM M f hh g) := fun _ _ _ => h
  have hL1 := hL f (i3 (hcF C R a W V D i)) (wkN C R a W V D i 17)
  obtain ⟨i1, i2⟩ := wk_Inv (R := R) (a := a) (W := W) (V := V) hB (Inv_startF (C := C) (D := D) hB) (InV_startF hB) (by omega) true i (by omega)
  have i3' := (Inv_did (R := R) (a := a) (k := W i) (x := V i 0) (y := V i 1) (v := V i 2) hB i1 i2 (by omega) true).1
  have hm := wkP_mono (R := R) (a := a) (W := W) (V := V) (i := i) (m := 1) hB hE (by omega)
  obtain ⟨hPl, K, hEn⟩ := wkP_le (R := R) (a := a) (W := W) (V := V) (n := i + 1) hB (by omega) hE
  have hh1 := hcF_le (R := R) (a := a) (W := W) (V := V) hB hE i (by omega)
  have hfd : F_X4_find fu 0 (some 2) (emb 2 (didT C R a true (wkN C R a W V D i) (W i) (V i 0) (V i 1) (V i 2)).2 (jM M f (i3 (hcF C R a W V D i)) (wkN C R a W V D i 17))) = some (emb 2 (wkN C R a W V D (i + 1)) (jM M f (i3 (hcF C R a W V D i)) (wkN C R a W V D i 17))) :=
    e_find (fu := fu) (D := (didT C R a true (wkN C R a W V D i) (W i) (V i 0) (V i 1) (V i 2)).2) (M := jM M f (i3 (hcF C R a W V D i)) (wkN C R a W V D i 17)) hL1 (show 2 < 5 by omega) i3'.1 (by omega)
  have hcnt := e_half (fu := fu) (M := M) (f := f) (g := wkN C R a W V D i 17) (p := wkP C R a W V D i) (q := wkP C R a W V D (i + 1) - wkP C R a W V D i) (o := hcF C R a W V D i) h hEn (by omega) (by omega) (by omega) (wkP C R a W V D (i + 1) - wkP C R a W V D i) 0 fu (by omega) (by omega)
  rw [Nat.add_zero] at hcnt
  unfold J_X5_run_145
  simp only [gR_emb]
  rw [l5_0_3 hL1, l5_0_2 hL1]
  simp only [Option.bind_some]
  rw [l2_0 hL1 (by omega), hfd]
  simp only [Option.bind_some]
  unfold F_X5_countHalfDone
  rw [show i3 (hcF C R a W V D i) = i3 (hcF C R a W V D i + cnt (fun j => hfC (wkN C R a W V D (i + 1)) (wkN C R a W V D i 17) (wkP C R a W V D i + j)) 0) from rfl, hcnt]
  simp only [Option.bind_some, i3_add1]
  rfl
theorem e_run54 (h : Lay M) (hB : CB C) (hE : InE (startT C D) 0 0) (hf : 1100 < fu) (ha : a < 2) (hw : w < 2) (hC : Cfg C R a M) (hp : gR M 2 2 4 = some a) (hW : WkC n W V w M) : ∀ r i l g, i + r = n → r < l →
    L_X5_run_54 fu l 0 (some w) (i3 i) (emb 2 (wkN C R a W V D i) (jM M (fwF (cdB C R a W V D) i) (i3 (hcF C R a W V D i)) g)) =
      some (emb 2 (wkN C R a W V D n) (jM M (fwF (cdB C R a W V D) n) (i3 (hcF C R a W V D n)) (wkN C R a W V D n 17))) := by
  have hn := hW.2.1
  intro r
  induction r with
  | zero =>
    intro i l g hi hl
    obtain ⟨l, rfl⟩ : ∃ k, l = k + 1 := ⟨l - 1, by omega⟩
    have e : i = n := by omega
    subst e
    have hL : Lay (jM M (fwF (cdB C R a W V D) i) (i3 (hcF C R a W V D i)) g) := h
    have hW' := j_wk (f := fwF (cdB C R a W V D) i) (hh := i3 (hcF C R a W V D i)) (g := g) hW hw
    conv => lhs; unfold L_X5_run_54
    simp (disch := first | assumption | omega) only [l0_7, l0_8, l0_9, l0_10, l0_11, l0_12, l0_13, l0_14, l0_15, l2_0, l2_5, l2_6, l2_7, l2_8, l2_9, l2_12, l2_13, l7_4, l7_5, l7_6, l7_7, l8_0, l8_1, l8_2, l9_1, l9_2, l9_3, l9_4, l4_0_0, l4_0_1, l4_0_2, l4_0_3, l3_0_2, l3_0_3, l3_0_4, l3_0_5, l10_0_0, l1_0_1, l1_0_2, l1_0_3, l1_1_1, l1_1_2, l1_1_3, l1_2_1, l1_2_2, l1_2_3, l5_0_0, l5_0_2, l5_0_3, l5_0_4, l11_0_0, l11_0_5, l11_0_6, l11_0_7, l11_0_8, l11_0_9, l11_0_10, l11_0_11, l11_0_12, l11_0_13, l24_0_0, l24_0_1, l25_0_0, l25_0_1, l12_0_1, l12_0_4, l12_0_5, l12_0_6, l12_0_9, l12_0_10, l12_0_11, l12_0_13, l12_0_14, l12_0_15, l12_0_16, l12_0_17, l12_0_18, l12_0_19, l12_0_23, l12_0_24, l12_0_25, l12_0_27, n_a0, n_a1, n_a2, n_a3, n_a4, n_a5, n_a6, n_a7, n_a8, n_a9, n_a10, n_b0, n_b1, n_b2, n_p0, n_p1, n_p2, n_p3, n_p4, n_s0, n_s1, n_s2, n_s3, n_nm, n20_18, n20_19, n20_20, n20_21, n20_44, n20_45, n20_46, n20_47, n20_48, n20_49, n20_83, n20_84, n20_85, n20_86, n20_87, n20_88, n20_89, n20_90, n20_91, n20_92, n20_93, n20_94, n20_95, n20_96, n20_97, n20_98, n21_2, n21_3, n21_4, n21_5, n21_6, n22_6, n22_7, n22_17, n22_18, n22_19, n22_20, n23_0, n24_0, n25_0, r_a0, w_a0, r_a1, w_a1, r_a2, w_a2, r_a3, w_a3, r_a4, w_a4, r_a5, w_a5, r_a6, w_a6, r_a7, w_a7, r_a8, w_a8, r_a9, w_a9, r_a10, w_a10, r_b0, w_b0, r_b1, w_b1, r_b2, w_b2, r_d, w_d, r_c, w_c, r_e, w_e, r_t, w_t, r_f0, w_f0, r_f1, w_f1, r_f2, w_f2, r_f3, w_f3, r_e0, w_e0, r_e1, w_e1, r_e2, w_e2, r_o7, r_o8, r_o9, r_o10, r_o1, r_o5, r_o6, r_o11, r_o12, r_o21, r_o23, r_p0, r_p1, r_p2, r_s0, r_s1, r_s2, r_s3, i3_add1, i3_add, i3_mul, i3_addl, i3_mull, i3_ladd, i3_lmul, i3_div4, i3_le, i3_lt, i3_eq, i3_lel, i3_lle, i3_ltl, i3_llt, i3_eql, i3_leq, i3_nl, i3_0l, i3_nn, n1_lt, n1_le, xi_i3, xin_i3, xi_lit, xin_lit, xb0, xb1, gd_t, nz4, Option.bind_some, gR_emb, gN_emb, gL_emb, ↓reduceIte, if_true, if_false, not_true_eq_false, not_false_eq_true, eq_self, Nat.not_lt_zero, Nat.zero_le, true_or, or_true, false_or, or_false, true_and, and_true, false_and, and_false, hW'.1]
    rw [if_pos (Nat.le_refl _)]
    exact e_run171 h
  | succ r ih =>
    intro i l g hi hl
    obtain ⟨l, rfl⟩ : ∃ k, l = k + 1 := ⟨l - 1, by omega⟩
    have hL : ∀ f hh g, Lay (jM M f hh g) := fun _ _ _ => h
    have hL1 := hL (fwF (cdB C R a W V D) i) (i3 (hcF C R a W V D i)) g
    have hL2 := hL (fwF (cdB C R a W V D) i) (i3 (hcF C R a W V D i)) (wkN C R a W V D i 17)
    have hW' := j_wk (f := fwF (cdB C R a W V D) i) (hh := i3 (hcF C R a W V D i)) (g := g) hW hw
    have hW2 := j_wk (f := fwF (cdB C R a W V D) i) (hh := i3 (hcF C R a W V D i)) (g := wkN C R a W V D i 17) hW hw
    obtain ⟨u0, u1, u2, u3, u4, u5⟩ := hW2.2.2 i (by omega)
    obtain ⟨i1, i2⟩ := wk_Inv (R := R) (a := a) (W := W) (V := V) hB (Inv_startF (C := C) (D := D) hB) (InV_startF hB) (by omega) true i (by omega)
    obtain ⟨hPl, K, hEn⟩ := wkP_le (R := R) (a := a) (W := W) (V := V) (n := i) hB (by omega) hE
    have hact := e_act (fu := fu) (d := 2) (M := jM M (fwF (cdB C R a W V D) i) (i3 (hcF C R a W V D i)) (wkN C R a W V D i 17)) (D := wkN C R a W V D i) (k := i3 (W i)) (x := V i 0) (y := V i 1) (v := V i 2) hL2 (by omega) ha (j_cfg hC ha) hp ⟨i1.1, fun _ => InE_ok hEn⟩ hf
    rw [show decide (2 = 2) = true from rfl, ← did_2 u4] at hact
    have e24 : wkN C R a W V D i 24 0 = i3 (wkP C R a W V D i) := hEn.2.2.1
    have w20 : xcpok (i3 0) (i3 0) (i3 20) 20 20 = true := xcpok_i3 (by omega) (by omega) (by omega) (by omega)
    conv => lhs; unfold L_X5_run_54
    simp (disch := first | assumption | omega) only [l0_7, l0_8, l0_9, l0_10, l0_11, l0_12, l0_13, l0_14, l0_15, l2_0, l2_5, l2_6, l2_7, l2_8, l2_9, l2_12, l2_13, l7_4, l7_5, l7_6, l7_7, l8_0, l8_1, l8_2, l9_1, l9_2, l9_3, l9_4, l4_0_0, l4_0_1, l4_0_2, l4_0_3, l3_0_2, l3_0_3, l3_0_4, l3_0_5, l10_0_0, l1_0_1, l1_0_2, l1_0_3, l1_1_1, l1_1_2, l1_1_3, l1_2_1, l1_2_2, l1_2_3, l5_0_0, l5_0_2, l5_0_3, l5_0_4, l11_0_0, l11_0_5, l11_0_6, l11_0_7, l11_0_8, l11_0_9, l11_0_10, l11_0_11, l11_0_12, l11_0_13, l24_0_0, l24_0_1, l25_0_0, l25_0_1, l12_0_1, l12_0_4, l12_0_5, l12_0_6, l12_0_9, l12_0_10, l12_0_11, l12_0_13, l12_0_14, l12_0_15, l12_0_16, l12_0_17, l12_0_18, l12_0_19, l12_0_23, l12_0_24, l12_0_25, l12_0_27, n_a0, n_a1, n_a2, n_a3, n_a4, n_a5, n_a6, n_a7, n_a8, n_a9, n_a10, n_b0, n_b1, n_b2, n_p0, n_p1, n_p2, n_p3, n_p4, n_s0, n_s1, n_s2, n_s3, n_nm, n20_18, n20_19, n20_20, n20_21, n20_44, n20_45, n20_46, n20_47, n20_48, n20_49, n20_83, n20_84, n20_85, n20_86, n20_87, n20_88, n20_89, n20_90, n20_91, n20_92, n20_93, n20_94, n20_95, n20_96, n20_97, n20_98, n21_2, n21_3, n21_4, n21_5, n21_6, n22_6, n22_7, n22_17, n22_18, n22_19, n22_20, n23_0, n24_0, n25_0, r_a0, w_a0, r_a1, w_a1, r_a2, w_a2, r_a3, w_a3, r_a4, w_a4, r_a5, w_a5, r_a6, w_a6, r_a7, w_a7, r_a8, w_a8, r_a9, w_a9, r_a10, w_a10, r_b0, w_b0, r_b1, w_b1, r_b2, w_b2, r_d, w_d, r_c, w_c, r_e, w_e, r_t, w_t, r_f0, w_f0, r_f1, w_f1, r_f2, w_f2, r_f3, w_f3, r_e0, w_e0, r_e1, w_e1, r_e2, w_e2, r_o7, r_o8, r_o9, r_o10, r_o1, r_o5, r_o6, r_o11, r_o12, r_o21, r_o23, r_p0, r_p1, r_p2, r_s0, r_s1, r_s2, r_s3, i3_add1, i3_add, i3_mul, i3_addl, i3_mull, i3_ladd, i3_lmul, i3_div4, i3_le, i3_lt, i3_eq, i3_lel, i3_lle, i3_ltl, i3_llt, i3_eql, i3_leq, i3_nl, i3_0l, i3_nn, n1_lt, n1_le, xi_i3, xin_i3, xi_lit, xin_lit, xb0, xb1, gd_t, nz4, Option.bind_some, gR_emb, gN_emb, gL_emb, ↓reduceIte, if_true, if_false, not_true_eq_false, not_false_eq_true, eq_self, Nat.not_lt_zero, Nat.zero_le, true_or, or_true, false_or, or_false, true_and, and_true, false_and, and_false, hW'.1]
    rw [if_neg (by omega), if_neg (by omega), show xcpok 0 0 20 20 20 = true from w20, gd_t, j_cp (by omega)]
    simp (disch := first | assumption | omega) only [l0_7, l0_8, l0_9, l0_10, l0_11, l0_12, l0_13, l0_14, l0_15, l2_0, l2_5, l2_6, l2_7, l2_8, l2_9, l2_12, l2_13, l7_4, l7_5, l7_6, l7_7, l8_0, l8_1, l8_2, l9_1, l9_2, l9_3, l9_4, l4_0_0, l4_0_1, l4_0_2, l4_0_3, l3_0_2, l3_0_3, l3_0_4, l3_0_5, l10_0_0, l1_0_1, l1_0_2, l1_0_3, l1_1_1, l1_1_2, l1_1_3, l1_2_1, l1_2_2, l1_2_3, l5_0_0, l5_0_2, l5_0_3, l5_0_4, l11_0_0, l11_0_5, l11_0_6, l11_0_7, l11_0_8, l11_0_9, l11_0_10, l11_0_11, l11_0_12, l11_0_13, l24_0_0, l24_0_1, l25_0_0, l25_0_1, l12_0_1, l12_0_4, l12_0_5, l12_0_6, l12_0_9, l12_0_10, l12_0_11, l12_0_13, l12_0_14, l12_0_15, l12_0_16, l12_0_17, l12_0_18, l12_0_19, l12_0_23, l12_0_24, l12_0_25, l12_0_27, n_a0, n_a1, n_a2, n_a3, n_a4, n_a5, n_a6, n_a7, n_a8, n_a9, n_a10, n_b0, n_b1, n_b2, n_p0, n_p1, n_p2, n_p3, n_p4, n_s0, n_s1, n_s2, n_s3, n_nm, n20_18, n20_19, n20_20, n20_21, n20_44, n20_45, n20_46, n20_47, n20_48, n20_49, n20_83, n20_84, n20_85, n20_86, n20_87, n20_88, n20_89, n20_90, n20_91, n20_92, n20_93, n20_94, n20_95, n20_96, n20_97, n20_98, n21_2, n21_3, n21_4, n21_5, n21_6, n22_6, n22_7, n22_17, n22_18, n22_19, n22_20, n23_0, n24_0, n25_0, r_a0, w_a0, r_a1, w_a1, r_a2, w_a2, r_a3, w_a3, r_a4, w_a4, r_a5, w_a5, r_a6, w_a6, r_a7, w_a7, r_a8, w_a8, r_a9, w_a9, r_a10, w_a10, r_b0, w_b0, r_b1, w_b1, r_b2, w_b2, r_d, w_d, r_c, w_c, r_e, w_e, r_t, w_t, r_f0, w_f0, r_f1, w_f1, r_f2, w_f2, r_f3, w_f3, r_e0, w_e0, r_e1, w_e1, r_e2, w_e2, r_o7, r_o8, r_o9, r_o10, r_o1, r_o5, r_o6, r_o11, r_o12, r_o21, r_o23, r_p0, r_p1, r_p2, r_s0, r_s1, r_s2, r_s3, i3_add1, i3_add, i3_mul, i3_addl, i3_mull, i3_ladd, i3_lmul, i3_div4, i3_le, i3_lt, i3_eq, i3_lel, i3_lle, i3_ltl, i3_llt, i3_eql, i3_leq, i3_nl, i3_0l, i3_nn, n1_lt, n1_le, xi_i3, xin_i3, xi_lit, xin_lit, xb0, xb1, gd_t, nz4, Option.bind_some, gR_emb, gN_emb, gL_emb, ↓reduceIte, if_true, if_false, not_true_eq_false, not_false_eq_true, eq_self, Nat.not_lt_zero, Nat.zero_le, true_or, or_true, false_or, or_false, true_and, and_true, false_and, and_false, u0, u1, u2, u3, e24]
    rw [hact]
    simp only [Option.bind_some, bz_0]
    have ecd : cdB C R a W V D i = (actT C R a true (wkN C R a W V D i) (i3 (W i)) (V i 0) (V i 1) (V i 2)).1 := rfl
    rw [← ecd]
    have hfw : fwF (cdB C R a W V D) (i + 1) = if cdB C R a W V D i then fwF (cdB C R a W V D) i else if 0 ≤ fwF (cdB C R a W V D) i then fwF (cdB C R a W V D) i else i3 i := rfl
    have ih2 := ih (i + 1) l (wkN C R a W V D i 17) (by omega) (by omega)
    rw [hfw] at ih2
    cases e : cdB C R a W V D i with
    | true =>
      rw [e, if_pos rfl] at ih2
      rw [if_pos (by decide), e_run145 h hB hE (show i < n by omega) hn hf]
      exact ih2
    | false =>
      rw [e, if_neg (by decide)] at ih2
      rw [if_neg (by decide), r_o5, j_6]
      by_cases c0 : 0 ≤ fwF (cdB C R a W V D) i
      · rw [if_pos c0] at ih2
        rw [if_pos c0, e_run145 h hB hE (show i < n by omega) hn hf]
        exact ih2
      · rw [if_neg c0] at ih2
        rw [if_neg c0, sI_not ow_5, j_s6, e_run145 h hB hE (show i < n by omega) hn hf]
        exact ih2
/-- the table that a run starts from -/
def runD (D : xT) : xT := up (up D 24 0 0) 24 1 0
theorem InE_runD : InE (startT C (runD D)) 0 0 := ⟨by omega, by omega, rfl, rfl, fun p hp => absurd hp (Nat.not_lt_zero _), fun m hm => absurd hm (Nat.not_lt_zero _), fun m n hm => absurd hm (Nat.not_lt_zero _), fun m hm => absurd hm (Nat.not_lt_zero _)⟩
theorem WkC_sR {o : Option Nat} (hW : WkC n W V w M) : WkC n W V w (sR M c s k o) := hW
theorem e_run (h : Lay M) (hB : CB C) (hf : 1100 < fu) (ha : a < 2) (hw : w < 2) (hC : Cfg C R a M) (hW : WkC n W V w M) (h0 : gI M 5 0 5 = 0) :
    F_X5_run fu 0 (some a) (some w) (emb 2 D M) = some (emb 2 (wkN C R a W V (runD D) n) (jM (sR M 2 2 4 (some a)) (fwF (cdB C R a W V (runD D)) n) (i3 (hcF C R a W V (runD D) n)) (wkN C R a W V (runD D) n 17))) := by
  have h2 : Lay (sR M 2 2 4 (some a)) := Lay_sR4 h
  have hp : gR (sR M 2 2 4 (some a)) 2 2 4 = some a := by
    show (if 2 = 2 ∧ 2 = 2 ∧ 4 = 4 then some a else gR M 2 2 4) = some a
    rfl
  have hW2 : WkC n W V w (sR M 2 2 4 (some a)) := WkC_sR hW
  have hC2 : Cfg C R a (sR M 2 2 4 (some a)) := Cfg_sR hC
  have hl : ∀ (v1 v2 v3 : Int32) (M : xM), Lay M → Lay (sI (sI (sI M 5 0 5 v1) 5 0 6 v2) 5 0 1 v3) := fun _ _ _ _ h => h
  have hcs : Cfg C R a (sI M 5 0 5 1) := by
    obtain ⟨c1, c2, c3, c4, c5, c6, c7, c8, c9, c10, c11, c12⟩ := hC
    exact ⟨c1, c2, c3, c4, c5, c6, c7, c8, c9, c10, c11, c12⟩
  have hls : Lay (sI M 5 0 5 1) := h
  unfold F_X5_run
  rw [r_o5, h0, if_pos rfl, xb_t, gd_t, sI_not ow_5]
  simp only [gR_emb]
  rw [l5_0_0 hls]
  simp only [Option.bind_some]
  unfold F_X3_clear
  simp only [w_e, gR_emb, Option.bind_some]
  rw [l5_0_3 hls]
  simp only [Option.bind_some]
  rw [show up (up D 24 0 0) 24 1 0 = runD D from rfl, e_start hls (by omega) hcs (by omega)]
  simp only [Option.bind_some]
  rw [sI_not ow_5, sI_not ow_5]
  have hj : sI (sI (sR (sI M 5 0 5 1) 2 2 4 (some a)) 5 0 6 (-1)) 5 0 1 0 = jM (sR M 2 2 4 (some a)) (-1) 0 (gI (sR M 2 2 4 (some a)) 20 46) := j_init (M := sR M 2 2 4 (some a))
  rw [hj]
  have hL3 : Lay (jM (sR M 2 2 4 (some a)) (-1) 0 (gI (sR M 2 2 4 (some a)) 20 46)) := h2
  simp only [gR_emb]
  rw [l5_0_3 hL3]
  simp only [Option.bind_some]
  rw [l5_0_2 hL3]
  simp only [Option.bind_some]
  rw [l2_0 hL3 (by omega), e_find hL3 (by omega) (Inv_start (C := C) (D := runD D) hB).1 (by omega)]
  simp only [Option.bind_some]
  exact e_run54 (D := runD D) h2 hB InE_runD hf ha hw hC2 hp hW2 n 0 fu _ (by omega) (by have := hW.2.1; omega)
end
