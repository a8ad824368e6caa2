/-! ===== the judge's run: the class ===== -/
/-- the judge's own cells: done, the first wrong line, how many half done, what there is ahead -/
def jM (M : xM) (f hh : Int32) (g : Nat → Int32) : xM := (fun c s k => if c = 5 ∧ s = 0 ∧ k = 5 then 1 else if c = 5 ∧ s = 0 ∧ k = 6 then f else if c = 5 ∧ s = 0 ∧ k = 1 then hh else if c = 20 ∧ s = 46 ∧ k < 20 then g k else M.1 c s k, M.2)
/-- a work as the class holds it -/
def WkC (n : Nat) (W : Nat → Nat) (V : Nat → Nat → Int32) (w : Nat) (M : xM) : Prop := gI M 9 w 0 = i3 n ∧ n ≤ 24 ∧ ∀ i, i < n → gI M 20 (10 + 4 * w + 0) i = i3 (W i) ∧ gI M 20 (10 + 4 * w + 1) i = V i 0 ∧ gI M 20 (10 + 4 * w + 2) i = V i 1 ∧ gI M 20 (10 + 4 * w + 3) i = V i 2 ∧ W i < 6 ∧ ∃ g, g ≤ 255 ∧ V i 2 = i3 g
/-- the first line that can't be -/
def fwF (cd : Nat → Bool) : Nat → Int32
  | 0 => -1
  | i + 1 => if cd i then fwF cd i else if 0 ≤ fwF cd i then fwF cd i else i3 i
/-- whether line i could be -/
def cdB (C : xC) (R : Nat → Int32) (a : Nat) (W : Nat → Nat) (V : Nat → Nat → Int32) (D : xT) (i : Nat) : Bool := (actT C R a true (wkN C R a W V D i) (i3 (W i)) (V i 0) (V i 1) (V i 2)).1
section
variable {M : xM} {D E X X' : xT} {C : xC} {R B S g g' : Nat → Int32} {d fu n m i j o p q a c k l s w K P L : Nat} {f hh v x y : Int32} {W : Nat → Nat} {V : Nat → Nat → Int32}
theorem sI_not (h : own d c s = none) : sI (emb d D M) c s k v = emb d D (sI M c s k v) := by
  refine Prod.ext ?_ rfl
  funext c' s' k'
  show (if c' = c ∧ s' = s ∧ k' = k then v else emf (own d c' s') D k' (M.1 c' s' k')) = emf (own d c' s') D k' (if c' = c ∧ s' = s ∧ k' = k then v else M.1 c' s' k')
  by_cases q : c' = c ∧ s' = s ∧ k' = k
  · rw [if_pos q, q.1, q.2.1, h, q.2.2, if_pos ⟨rfl, rfl, rfl⟩]; rfl
  · rw [if_neg q, if_neg q]
theorem ow_5 : own d 5 s = none := by unfold own; simp
theorem ow_46 (hd : d < 5) : own d 20 46 = none := by unfold own; rw [if_pos rfl, if_neg (cb_no d 46 (by omega) (by omega)), if_neg (by omega), if_neg (by omega), if_neg (by omega), if_neg (by omega), if_neg (by omega), if_neg (by omega)]
theorem j_6 : gI (jM M f hh g) 5 0 6 = f := by unfold gI jM; simp
theorem j_5 : gI (jM M f hh g) 5 0 5 = 1 := by unfold gI jM; simp
theorem j_1 : gI (jM M f hh g) 5 0 1 = hh := by unfold gI jM; simp
theorem j_46 (hk : k < 20) : gI (jM M f hh g) 20 46 k = g k := by unfold gI jM; simp [hk]
theorem j_o (h : c ≠ 5 ∧ (c ≠ 20 ∨ s ≠ 46)) : gI (jM M f hh g) c s k = gI M c s k := by
  show (if c = 5 ∧ s = 0 ∧ k = 5 then 1 else if c = 5 ∧ s = 0 ∧ k = 6 then f else if c = 5 ∧ s = 0 ∧ k = 1 then hh else if c = 20 ∧ s = 46 ∧ k < 20 then g k else M.1 c s k) = M.1 c s k
  rw [if_neg (by omega), if_neg (by omega), if_neg (by omega), if_neg (by omega)]
theorem j_s6 : sI (jM M f hh g) 5 0 6 v = jM M v hh g := by
  refine Prod.ext ?_ rfl
  funext c' s' k'
  show (if c' = 5 ∧ s' = 0 ∧ k' = 6 then v else if c' = 5 ∧ s' = 0 ∧ k' = 5 then 1 else if c' = 5 ∧ s' = 0 ∧ k' = 6 then f else if c' = 5 ∧ s' = 0 ∧ k' = 1 then hh else if c' = 20 ∧ s' = 46 ∧ k' < 20 then g k' else M.1 c' s' k') = (if c' = 5 ∧ s' = 0 ∧ k' = 5 then 1 else if c' = 5 ∧ s' = 0 ∧ k' = 6 then v else if c' = 5 ∧ s' = 0 ∧ k' = 1 then hh else if c' = 20 ∧ s' = 46 ∧ k' < 20 then g k' else M.1 c' s' k')
  by_cases q : c' = 5 ∧ s' = 0 ∧ k' = 6
  · rw [if_pos q, if_neg (by omega), if_pos q]
  · rw [if_neg q, if_neg q, if_neg q]
theorem j_s1 : sI (jM M f hh g) 5 0 1 v = jM M f v g := by
  refine Prod.ext ?_ rfl
  funext c' s' k'
  show (if c' = 5 ∧ s' = 0 ∧ k' = 1 then v else if c' = 5 ∧ s' = 0 ∧ k' = 5 then 1 else if c' = 5 ∧ s' = 0 ∧ k' = 6 then f else if c' = 5 ∧ s' = 0 ∧ k' = 1 then hh else if c' = 20 ∧ s' = 46 ∧ k' < 20 then g k' else M.1 c' s' k') = (if c' = 5 ∧ s' = 0 ∧ k' = 5 then 1 else if c' = 5 ∧ s' = 0 ∧ k' = 6 then f else if c' = 5 ∧ s' = 0 ∧ k' = 1 then v else if c' = 20 ∧ s' = 46 ∧ k' < 20 then g k' else M.1 c' s' k')
  by_cases q : c' = 5 ∧ s' = 0 ∧ k' = 1
  · rw [if_pos q, if_neg (by omega), if_neg (by omega), if_pos q]
  · rw [if_neg q, if_neg q, if_neg q]
theorem j_init : sI (sI (sI M 5 0 5 1) 5 0 6 (-1)) 5 0 1 0 = jM M (-1) 0 (gI M 20 46) := by
  refine Prod.ext ?_ rfl
  funext c' s' k'
  show (if c' = 5 ∧ s' = 0 ∧ k' = 1 then 0 else if c' = 5 ∧ s' = 0 ∧ k' = 6 then -1 else if c' = 5 ∧ s' = 0 ∧ k' = 5 then 1 else M.1 c' s' k') = (if c' = 5 ∧ s' = 0 ∧ k' = 5 then 1 else if c' = 5 ∧ s' = 0 ∧ k' = 6 then -1 else if c' = 5 ∧ s' = 0 ∧ k' = 1 then 0 else if c' = 20 ∧ s' = 46 ∧ k' < 20 then M.1 20 46 k' else M.1 c' s' k')
  by_cases q1 : c' = 5 ∧ s' = 0 ∧ k' = 1
  · rw [if_pos q1, if_neg (by omega), if_neg (by omega), if_pos q1]
  rw [if_neg q1]
  by_cases q6 : c' = 5 ∧ s' = 0 ∧ k' = 6
  · rw [if_pos q6, if_neg (by omega), if_pos q6]
  rw [if_neg q6]
  by_cases q5 : c' = 5 ∧ s' = 0 ∧ k' = 5
  · rw [if_pos q5, if_pos q5]
  rw [if_neg q5, if_neg q5, if_neg q6, if_neg q1]
  by_cases q : c' = 20 ∧ s' = 46 ∧ k' < 20
  · rw [if_pos q, q.1, q.2.1]
  · rw [if_neg q]
theorem j_cp (hd : d < 5) : cpI (emb d D (jM M f hh g)) 20 19 46 0 0 20 = emb d D (jM M f hh (D 17)) := by
  refine Prod.ext ?_ rfl
  funext c' s' k'
  have e19 : own d 20 19 = some 17 := ow_f (by decide) (by decide)
  show (if c' = 20 ∧ s' = 46 ∧ 0 ≤ k' ∧ k' < 0 + 20 then emf (own d 20 19) D (0 + (k' - 0)) ((jM M f hh g).1 20 19 (0 + (k' - 0))) else emf (own d c' s') D k' ((jM M f hh g).1 c' s' k')) = emf (own d c' s') D k' ((jM M f hh (D 17)).1 c' s' k')
  by_cases q : c' = 20 ∧ s' = 46 ∧ k' < 20
  · obtain ⟨rfl, rfl, q3⟩ := q
    rw [if_pos ⟨rfl, rfl, Nat.zero_le _, by omega⟩, e19, ow_46 hd]
    show D 17 (0 + (k' - 0)) = (jM M f hh (D 17)).1 20 46 k'
    rw [show 0 + (k' - 0) = k' by omega]
    exact (j_46 (M := M) (f := f) (hh := hh) (g := D 17) q3).symm
  · rw [if_neg (by omega)]
    congr 1
    show (if c' = 5 ∧ s' = 0 ∧ k' = 5 then 1 else if c' = 5 ∧ s' = 0 ∧ k' = 6 then f else if c' = 5 ∧ s' = 0 ∧ k' = 1 then hh else if c' = 20 ∧ s' = 46 ∧ k' < 20 then g k' else M.1 c' s' k') = (if c' = 5 ∧ s' = 0 ∧ k' = 5 then 1 else if c' = 5 ∧ s' = 0 ∧ k' = 6 then f else if c' = 5 ∧ s' = 0 ∧ k' = 1 then hh else if c' = 20 ∧ s' = 46 ∧ k' < 20 then D 17 k' else M.1 c' s' k')
    rw [if_neg q, if_neg q]
theorem j_lay (h : Lay M) : Lay (jM M f hh g) := h
theorem j_cfg (hC : Cfg C R a M) (ha : a < 2) : Cfg C R a (jM M f hh g) := by
  obtain ⟨c1, c2, c3, c4, c5, c6, c7, c8, c9, c10, c11, c12⟩ := hC
  refine ⟨c1, c2, c3, c4, c5, ?_, ?_, ?_, ?_, ?_, fun f hf => ?_, fun i hi => ?_⟩
  · rw [j_o (by omega)]; exact c6
  · rw [j_o (by omega)]; exact c7
  · rw [j_o (by omega)]; exact c8
  · rw [j_o (by omega)]; exact c9
  · rw [j_o (by omega)]; exact c10
  · rw [j_o (by omega), j_o (by omega)]; exact c11 f hf
  · rw [j_o (by omega)]; exact c12 i hi
theorem j_wk (hW : WkC n W V w M) (hw : w < 2) : WkC n W V w (jM M f hh g) := by
  obtain ⟨h1, h2, h3⟩ := hW
  refine ⟨by rw [j_o (by omega)]; exact h1, h2, fun i hi => ?_⟩
  rw [j_o (by omega), j_o (by omega), j_o (by omega), j_o (by omega)]
  exact h3 i hi
theorem e_isAlike2 (h : Lay M) (hf : 100 < fu) {m s : Nat} (hm : m < 288) (hs : ∀ k, k < 20 → gI (emb d D M) 20 s k = g k) (hn : gN M 20 s = 20) : F_X3_isAlike fu 0 (i3 m) (some s) (emb d D M) = some (bz (alikeB D m g), emb d D M) := by
  unfold F_X3_isAlike alikeB
  have := lpx (fun n i => L_X3_isAlike_2 fu n 0 (i3 m) (some s) (i3 i) (emb d D M)) (fun a => ! decide (D 20 (m * 20 + a) = g a)) 20 (some (1, emb d D M)) (fun i => some (0, emb d D M)) ?_ ?_ ?_ fu (by omega)
  · refine Eq.trans this ?_
    cases lst (fun a => ! decide (D 20 (m * 20 + a) = g a)) 20 <;> rfl
  · intro n i hi hp
    show L_X3_isAlike_2 fu (n + 1) 0 (i3 m) (some s) (i3 i) (emb d D M) = _
    conv => lhs; unfold L_X3_isAlike_2
    simp only [Bool.not_eq_false', decide_eq_true_eq] at hp
    simp (disch := first | assumption | omega) only [l0_7, l0_8, l0_9, l0_10, l0_11, l0_12, l0_13, l0_14, l0_15, l2_0, l2_5, l2_6, l2_7, l2_8, l2_9, l2_12, l2_13, l7_4, l7_5, l7_6, l7_7, l8_0, l8_1, l8_2, l9_1, l9_2, l9_3, l9_4, l4_0_0, l4_0_1, l4_0_2, l4_0_3, l3_0_2, l3_0_3, l3_0_4, l3_0_5, l10_0_0, l1_0_1, l1_0_2, l1_0_3, l1_1_1, l1_1_2, l1_1_3, l1_2_1, l1_2_2, l1_2_3, l5_0_0, l5_0_2, l5_0_3, l5_0_4, l11_0_0, l11_0_5, l11_0_6, l11_0_7, l11_0_8, l11_0_9, l11_0_10, l11_0_11, l11_0_12, l11_0_13, l24_0_0, l24_0_1, l25_0_0, l25_0_1, l12_0_1, l12_0_4, l12_0_5, l12_0_6, l12_0_9, l12_0_10, l12_0_11, l12_0_13, l12_0_14, l12_0_15, l12_0_16, l12_0_17, l12_0_18, l12_0_19, l12_0_23, l12_0_24, l12_0_25, l12_0_27, n_a0, n_a1, n_a2, n_a3, n_a4, n_a5, n_a6, n_a7, n_a8, n_a9, n_a10, n_b0, n_b1, n_b2, n_p0, n_p1, n_p2, n_p3, n_p4, n_s0, n_s1, n_s2, n_s3, n_nm, n20_18, n20_19, n20_20, n20_21, n20_44, n20_45, n20_46, n20_47, n20_48, n20_49, n20_83, n20_84, n20_85, n20_86, n20_87, n20_88, n20_89, n20_90, n20_91, n20_92, n20_93, n20_94, n20_95, n20_96, n20_97, n20_98, n21_2, n21_3, n21_4, n21_5, n21_6, n22_6, n22_7, n22_17, n22_18, n22_19, n22_20, n23_0, n24_0, n25_0, r_a0, w_a0, r_a1, w_a1, r_a2, w_a2, r_a3, w_a3, r_a4, w_a4, r_a5, w_a5, r_a6, w_a6, r_a7, w_a7, r_a8, w_a8, r_a9, w_a9, r_a10, w_a10, r_b0, w_b0, r_b1, w_b1, r_b2, w_b2, r_d, w_d, r_c, w_c, r_e, w_e, r_t, w_t, r_f0, w_f0, r_f1, w_f1, r_f2, w_f2, r_f3, w_f3, r_e0, w_e0, r_e1, w_e1, r_e2, w_e2, r_o7, r_o8, r_o9, r_o10, r_o1, r_o5, r_o6, r_o11, r_o12, r_o21, r_o23, r_p0, r_p1, r_p2, r_s0, r_s1, r_s2, r_s3, i3_add1, i3_add, i3_mul, i3_addl, i3_mull, i3_ladd, i3_lmul, i3_div4, i3_le, i3_lt, i3_eq, i3_lel, i3_lle, i3_ltl, i3_llt, i3_eql, i3_leq, i3_nl, i3_0l, i3_nn, n1_lt, n1_le, xi_i3, xin_i3, xi_lit, xin_lit, xb0, xb1, gd_t, nz4, Option.bind_some, gR_emb, gN_emb, gL_emb, ↓reduceIte, if_true, if_false, not_true_eq_false, not_false_eq_true, eq_self, Nat.not_lt_zero, Nat.zero_le, true_or, or_true, false_or, or_false, true_and, and_true, false_and, and_false, hs i hi, hn, hp]
    rw [if_neg (by omega)]
  · intro n i hi hp
    show L_X3_isAlike_2 fu (n + 1) 0 (i3 m) (some s) (i3 i) (emb d D M) = _
    conv => lhs; unfold L_X3_isAlike_2
    simp only [Bool.not_eq_true', decide_eq_false_iff_not] at hp
    simp (disch := first | assumption | omega) only [l0_7, l0_8, l0_9, l0_10, l0_11, l0_12, l0_13, l0_14, l0_15, l2_0, l2_5, l2_6, l2_7, l2_8, l2_9, l2_12, l2_13, l7_4, l7_5, l7_6, l7_7, l8_0, l8_1, l8_2, l9_1, l9_2, l9_3, l9_4, l4_0_0, l4_0_1, l4_0_2, l4_0_3, l3_0_2, l3_0_3, l3_0_4, l3_0_5, l10_0_0, l1_0_1, l1_0_2, l1_0_3, l1_1_1, l1_1_2, l1_1_3, l1_2_1, l1_2_2, l1_2_3, l5_0_0, l5_0_2, l5_0_3, l5_0_4, l11_0_0, l11_0_5, l11_0_6, l11_0_7, l11_0_8, l11_0_9, l11_0_10, l11_0_11, l11_0_12, l11_0_13, l24_0_0, l24_0_1, l25_0_0, l25_0_1, l12_0_1, l12_0_4, l12_0_5, l12_0_6, l12_0_9, l12_0_10, l12_0_11, l12_0_13, l12_0_14, l12_0_15, l12_0_16, l12_0_17, l12_0_18, l12_0_19, l12_0_23, l12_0_24, l12_0_25, l12_0_27, n_a0, n_a1, n_a2, n_a3, n_a4, n_a5, n_a6, n_a7, n_a8, n_a9, n_a10, n_b0, n_b1, n_b2, n_p0, n_p1, n_p2, n_p3, n_p4, n_s0, n_s1, n_s2, n_s3, n_nm, n20_18, n20_19, n20_20, n20_21, n20_44, n20_45, n20_46, n20_47, n20_48, n20_49, n20_83, n20_84, n20_85, n20_86, n20_87, n20_88, n20_89, n20_90, n20_91, n20_92, n20_93, n20_94, n20_95, n20_96, n20_97, n20_98, n21_2, n21_3, n21_4, n21_5, n21_6, n22_6, n22_7, n22_17, n22_18, n22_19, n22_20, n23_0, n24_0, n25_0, r_a0, w_a0, r_a1, w_a1, r_a2, w_a2, r_a3, w_a3, r_a4, w_a4, r_a5, w_a5, r_a6, w_a6, r_a7, w_a7, r_a8, w_a8, r_a9, w_a9, r_a10, w_a10, r_b0, w_b0, r_b1, w_b1, r_b2, w_b2, r_d, w_d, r_c, w_c, r_e, w_e, r_t, w_t, r_f0, w_f0, r_f1, w_f1, r_f2, w_f2, r_f3, w_f3, r_e0, w_e0, r_e1, w_e1, r_e2, w_e2, r_o7, r_o8, r_o9, r_o10, r_o1, r_o5, r_o6, r_o11, r_o12, r_o21, r_o23, r_p0, r_p1, r_p2, r_s0, r_s1, r_s2, r_s3, i3_add1, i3_add, i3_mul, i3_addl, i3_mull, i3_ladd, i3_lmul, i3_div4, i3_le, i3_lt, i3_eq, i3_lel, i3_lle, i3_ltl, i3_llt, i3_eql, i3_leq, i3_nl, i3_0l, i3_nn, n1_lt, n1_le, xi_i3, xin_i3, xi_lit, xin_lit, xb0, xb1, gd_t, nz4, Option.bind_some, gR_emb, gN_emb, gL_emb, ↓reduceIte, if_true, if_false, not_true_eq_false, not_false_eq_true, eq_self, Nat.not_lt_zero, Nat.zero_le, true_or, or_true, false_or, or_false, true_and, and_true, false_and, and_false, hs i hi, hn, hp]
    rw [if_neg (by omega)]
  · intro n
    show L_X3_isAlike_2 fu (n + 1) 0 (i3 m) (some s) (i3 20) (emb d D M) = _
    conv => lhs; unfold L_X3_isAlike_2
    simp (disch := first | assumption | omega) only [l0_7, l0_8, l0_9, l0_10, l0_11, l0_12, l0_13, l0_14, l0_15, l2_0, l2_5, l2_6, l2_7, l2_8, l2_9, l2_12, l2_13, l7_4, l7_5, l7_6, l7_7, l8_0, l8_1, l8_2, l9_1, l9_2, l9_3, l9_4, l4_0_0, l4_0_1, l4_0_2, l4_0_3, l3_0_2, l3_0_3, l3_0_4, l3_0_5, l10_0_0, l1_0_1, l1_0_2, l1_0_3, l1_1_1, l1_1_2, l1_1_3, l1_2_1, l1_2_2, l1_2_3, l5_0_0, l5_0_2, l5_0_3, l5_0_4, l11_0_0, l11_0_5, l11_0_6, l11_0_7, l11_0_8, l11_0_9, l11_0_10, l11_0_11, l11_0_12, l11_0_13, l24_0_0, l24_0_1, l25_0_0, l25_0_1, l12_0_1, l12_0_4, l12_0_5, l12_0_6, l12_0_9, l12_0_10, l12_0_11, l12_0_13, l12_0_14, l12_0_15, l12_0_16, l12_0_17, l12_0_18, l12_0_19, l12_0_23, l12_0_24, l12_0_25, l12_0_27, n_a0, n_a1, n_a2, n_a3, n_a4, n_a5, n_a6, n_a7, n_a8, n_a9, n_a10, n_b0, n_b1, n_b2, n_p0, n_p1, n_p2, n_p3, n_p4, n_s0, n_s1, n_s2, n_s3, n_nm, n20_18, n20_19, n20_20, n20_21, n20_44, n20_45, n20_46, n20_47, n20_48, n20_49, n20_83, n20_84, n20_85, n20_86, n20_87, n20_88, n20_89, n20_90, n20_91, n20_92, n20_93, n20_94, n20_95, n20_96, n20_97, n20_98, n21_2, n21_3, n21_4, n21_5, n21_6, n22_6, n22_7, n22_17, n22_18, n22_19, n22_20, n23_0, n24_0, n25_0, r_a0, w_a0, r_a1, w_a1, r_a2, w_a2, r_a3, w_a3, r_a4, w_a4, r_a5, w_a5, r_a6, w_a6, r_a7, w_a7, r_a8, w_a8, r_a9, w_a9, r_a10, w_a10, r_b0, w_b0, r_b1, w_b1, r_b2, w_b2, r_d, w_d, r_c, w_c, r_e, w_e, r_t, w_t, r_f0, w_f0, r_f1, w_f1, r_f2, w_f2, r_f3, w_f3, r_e0, w_e0, r_e1, w_e1, r_e2, w_e2, r_o7, r_o8, r_o9, r_o10, r_o1, r_o5, r_o6, r_o11, r_o12, r_o21, r_o23, r_p0, r_p1, r_p2, r_s0, r_s1, r_s2, r_s3, i3_add1, i3_add, i3_mul, i3_addl, i3_mull, i3_ladd, i3_lmul, i3_div4, i3_le, i3_lt, i3_eq, i3_lel, i3_lle, i3_ltl, i3_llt, i3_eql, i3_leq, i3_nl, i3_0l, i3_nn, n1_lt, n1_le, xi_i3, xin_i3, xi_lit, xin_lit, xb0, xb1, gd_t, nz4, Option.bind_some, gR_emb, gN_emb, gL_emb, ↓reduceIte, if_true, if_false, not_true_eq_false, not_false_eq_true, eq_self, Nat.not_lt_zero, Nat.zero_le, true_or, or_true, false_or, or_false, true_and, and_true, false_and, and_false, Nat.le_refl]
/-- put p leaves it half done, by the table at hand -/
def hfC (D : xT) (g : Nat → Int32) (p : Nat) : Bool := ! alikeB D (xi (D 22 p)) g && ! alikeB D (xi (D 22 p)) (D 17)
theorem e_half (h : Lay M) (hE : InE D P K) (hf : 400 < fu) (hq : p + q = P) (hx : o + q ≤ 1000) : ∀ r i l, i + r = q → r < l →
    L_X5_countHalfDone_2 fu l 0 (i3 (p + i)) (emb 2 D (jM M f (i3 (o + cnt (fun j => hfC D g (p + j)) i)) g)) = some (emb 2 D (jM M f (i3 (o + cnt (fun j => hfC D g (p + j)) q)) g)) := by
  obtain ⟨a1, a2, a3, a4, a5, a6, a7, a8⟩ := hE
  intro r
  induction r with
  | zero =>
    intro i l hi hl
    obtain ⟨l, rfl⟩ : ∃ k, l = k + 1 := ⟨l - 1, by omega⟩
    have e : i = q := by omega
    subst e
    have hL : Lay (jM M f (i3 (o + cnt (fun j => hfC D g (p + j)) i)) g) := h
    conv => lhs; unfold L_X5_countHalfDone_2
    simp (disch := first | assumption | omega) only [l0_7, l0_8, l0_9, l0_10, l0_11, l0_12, l0_13, l0_14, l0_15, l2_0, l2_5, l2_6, l2_7, l2_8, l2_9, l2_12, l2_13, l7_4, l7_5, l7_6, l7_7, l8_0, l8_1, l8_2, l9_1, l9_2, l9_3, l9_4, l4_0_0, l4_0_1, l4_0_2, l4_0_3, l3_0_2, l3_0_3, l3_0_4, l3_0_5, l10_0_0, l1_0_1, l1_0_2, l1_0_3, l1_1_1, l1_1_2, l1_1_3, l1_2_1, l1_2_2, l1_2_3, l5_0_0, l5_0_2, l5_0_3, l5_0_4, l11_0_0, l11_0_5, l11_0_6, l11_0_7, l11_0_8, l11_0_9, l11_0_10, l11_0_11, l11_0_12, l11_0_13, l24_0_0, l24_0_1, l25_0_0, l25_0_1, l12_0_1, l12_0_4, l12_0_5, l12_0_6, l12_0_9, l12_0_10, l12_0_11, l12_0_13, l12_0_14, l12_0_15, l12_0_16, l12_0_17, l12_0_18, l12_0_19, l12_0_23, l12_0_24, l12_0_25, l12_0_27, n_a0, n_a1, n_a2, n_a3, n_a4, n_a5, n_a6, n_a7, n_a8, n_a9, n_a10, n_b0, n_b1, n_b2, n_p0, n_p1, n_p2, n_p3, n_p4, n_s0, n_s1, n_s2, n_s3, n_nm, n20_18, n20_19, n20_20, n20_21, n20_44, n20_45, n20_46, n20_47, n20_48, n20_49, n20_83, n20_84, n20_85, n20_86, n20_87, n20_88, n20_89, n20_90, n20_91, n20_92, n20_93, n20_94, n20_95, n20_96, n20_97, n20_98, n21_2, n21_3, n21_4, n21_5, n21_6, n22_6, n22_7, n22_17, n22_18, n22_19, n22_20, n23_0, n24_0, n25_0, r_a0, w_a0, r_a1, w_a1, r_a2, w_a2, r_a3, w_a3, r_a4, w_a4, r_a5, w_a5, r_a6, w_a6, r_a7, w_a7, r_a8, w_a8, r_a9, w_a9, r_a10, w_a10, r_b0, w_b0, r_b1, w_b1, r_b2, w_b2, r_d, w_d, r_c, w_c, r_e, w_e, r_t, w_t, r_f0, w_f0, r_f1, w_f1, r_f2, w_f2, r_f3, w_f3, r_e0, w_e0, r_e1, w_e1, r_e2, w_e2, r_o7, r_o8, r_o9, r_o10, r_o1, r_o5, r_o6, r_o11, r_o12, r_o21, r_o23, r_p0, r_p1, r_p2, r_s0, r_s1, r_s2, r_s3, i3_add1, i3_add, i3_mul, i3_addl, i3_mull, i3_ladd, i3_lmul, i3_div4, i3_le, i3_lt, i3_eq, i3_lel, i3_lle, i3_ltl, i3_llt, i3_eql, i3_leq, i3_nl, i3_0l, i3_nn, n1_lt, n1_le, xi_i3, xin_i3, xi_lit, xin_lit, xb0, xb1, gd_t, nz4, Option.bind_some, gR_emb, gN_emb, gL_emb, ↓reduceIte, if_true, if_false, not_true_eq_false, not_false_eq_true, eq_self, Nat.not_lt_zero, Nat.zero_le, true_or, or_true, false_or, or_false, true_and, and_true, false_and, and_false, a3]
    rw [if_pos (by omega)]
  | succ r ih =>
    intro i l hi hl
    obtain ⟨l, rfl⟩ : ∃ k, l = k + 1 := ⟨l - 1, by omega⟩
    have ih2 := ih (i + 1) l (by omega) (by omega)
    rw [cnt_s] at ih2
    obtain ⟨mp, m1, m2⟩ := a5 (p + i) (by omega)
    have hcn := cnt_le (fun j => hfC D g (p + j)) i
    generalize hv : i3 (o + cnt (fun j => hfC D g (p + j)) i) = vv at ih2 ⊢
    have hL : Lay (jM M f vv g) := h
    have s1 := e_isAlike2 (fu := fu) (D := D) (d := 2) (M := jM M f vv g) (g := g) (s := 46) hL (by omega) (show mp < 288 by omega) (fun k hk => by rw [r_q46 (by omega), j_46 hk]) (n20_46 hL)
    have s2 := e_isAlike2 (fu := fu) (D := D) (d := 2) (M := jM M f vv g) (g := D 17) (s := 19) hL (by omega) (show mp < 288 by omega) (fun k hk => r_f1) (n20_19 hL)
    conv => lhs; unfold L_X5_countHalfDone_2
    simp (disch := first | assumption | omega) only [l0_7, l0_8, l0_9, l0_10, l0_11, l0_12, l0_13, l0_14, l0_15, l2_0, l2_5, l2_6, l2_7, l2_8, l2_9, l2_12, l2_13, l7_4, l7_5, l7_6, l7_7, l8_0, l8_1, l8_2, l9_1, l9_2, l9_3, l9_4, l4_0_0, l4_0_1, l4_0_2, l4_0_3, l3_0_2, l3_0_3, l3_0_4, l3_0_5, l10_0_0, l1_0_1, l1_0_2, l1_0_3, l1_1_1, l1_1_2, l1_1_3, l1_2_1, l1_2_2, l1_2_3, l5_0_0, l5_0_2, l5_0_3, l5_0_4, l11_0_0, l11_0_5, l11_0_6, l11_0_7, l11_0_8, l11_0_9, l11_0_10, l11_0_11, l11_0_12, l11_0_13, l24_0_0, l24_0_1, l25_0_0, l25_0_1, l12_0_1, l12_0_4, l12_0_5, l12_0_6, l12_0_9, l12_0_10, l12_0_11, l12_0_13, l12_0_14, l12_0_15, l12_0_16, l12_0_17, l12_0_18, l12_0_19, l12_0_23, l12_0_24, l12_0_25, l12_0_27, n_a0, n_a1, n_a2, n_a3, n_a4, n_a5, n_a6, n_a7, n_a8, n_a9, n_a10, n_b0, n_b1, n_b2, n_p0, n_p1, n_p2, n_p3, n_p4, n_s0, n_s1, n_s2, n_s3, n_nm, n20_18, n20_19, n20_20, n20_21, n20_44, n20_45, n20_46, n20_47, n20_48, n20_49, n20_83, n20_84, n20_85, n20_86, n20_87, n20_88, n20_89, n20_90, n20_91, n20_92, n20_93, n20_94, n20_95, n20_96, n20_97, n20_98, n21_2, n21_3, n21_4, n21_5, n21_6, n22_6, n22_7, n22_17, n22_18, n22_19, n22_20, n23_0, n24_0, n25_0, r_a0, w_a0, r_a1, w_a1, r_a2, w_a2, r_a3, w_a3, r_a4, w_a4, r_a5, w_a5, r_a6, w_a6, r_a7, w_a7, r_a8, w_a8, r_a9, w_a9, r_a10, w_a10, r_b0, w_b0, r_b1, w_b1, r_b2, w_b2, r_d, w_d, r_c, w_c, r_e, w_e, r_t, w_t, r_f0, w_f0, r_f1, w_f1, r_f2, w_f2, r_f3, w_f3, r_e0, w_e0, r_e1, w_e1, r_e2, w_e2, r_o7, r_o8, r_o9, r_o10, r_o1, r_o5, r_o6, r_o11, r_o12, r_o21, r_o23, r_p0, r_p1, r_p2, r_s0, r_s1, r_s2, r_s3, i3_add1, i3_add, i3_mul, i3_addl, i3_mull, i3_ladd, i3_lmul, i3_div4, i3_le, i3_lt, i3_eq, i3_lel, i3_lle, i3_ltl, i3_llt, i3_eql, i3_leq, i3_nl, i3_0l, i3_nn, n1_lt, n1_le, xi_i3, xin_i3, xi_lit, xin_lit, xb0, xb1, gd_t, nz4, Option.bind_some, gR_emb, gN_emb, gL_emb, ↓reduceIte, if_true, if_false, not_true_eq_false, not_false_eq_true, eq_self, Nat.not_lt_zero, Nat.zero_le, true_or, or_true, false_or, or_false, true_and, and_true, false_and, and_false, a3]
    rw [if_neg (by omega)]
    unfold F_X3_mapOf
    simp (disch := first | assumption | omega) only [l0_7, l0_8, l0_9, l0_10, l0_11, l0_12, l0_13, l0_14, l0_15, l2_0, l2_5, l2_6, l2_7, l2_8, l2_9, l2_12, l2_13, l7_4, l7_5, l7_6, l7_7, l8_0, l8_1, l8_2, l9_1, l9_2, l9_3, l9_4, l4_0_0, l4_0_1, l4_0_2, l4_0_3, l3_0_2, l3_0_3, l3_0_4, l3_0_5, l10_0_0, l1_0_1, l1_0_2, l1_0_3, l1_1_1, l1_1_2, l1_1_3, l1_2_1, l1_2_2, l1_2_3, l5_0_0, l5_0_2, l5_0_3, l5_0_4, l11_0_0, l11_0_5, l11_0_6, l11_0_7, l11_0_8, l11_0_9, l11_0_10, l11_0_11, l11_0_12, l11_0_13, l24_0_0, l24_0_1, l25_0_0, l25_0_1, l12_0_1, l12_0_4, l12_0_5, l12_0_6, l12_0_9, l12_0_10, l12_0_11, l12_0_13, l12_0_14, l12_0_15, l12_0_16, l12_0_17, l12_0_18, l12_0_19, l12_0_23, l12_0_24, l12_0_25, l12_0_27, n_a0, n_a1, n_a2, n_a3, n_a4, n_a5, n_a6, n_a7, n_a8, n_a9, n_a10, n_b0, n_b1, n_b2, n_p0, n_p1, n_p2, n_p3, n_p4, n_s0, n_s1, n_s2, n_s3, n_nm, n20_18, n20_19, n20_20, n20_21, n20_44, n20_45, n20_46, n20_47, n20_48, n20_49, n20_83, n20_84, n20_85, n20_86, n20_87, n20_88, n20_89, n20_90, n20_91, n20_92, n20_93, n20_94, n20_95, n20_96, n20_97, n20_98, n21_2, n21_3, n21_4, n21_5, n21_6, n22_6, n22_7, n22_17, n22_18, n22_19, n22_20, n23_0, n24_0, n25_0, r_a0, w_a0, r_a1, w_a1, r_a2, w_a2, r_a3, w_a3, r_a4, w_a4, r_a5, w_a5, r_a6, w_a6, r_a7, w_a7, r_a8, w_a8, r_a9, w_a9, r_a10, w_a10, r_b0, w_b0, r_b1, w_b1, r_b2, w_b2, r_d, w_d, r_c, w_c, r_e, w_e, r_t, w_t, r_f0, w_f0, r_f1, w_f1, r_f2, w_f2, r_f3, w_f3, r_e0, w_e0, r_e1, w_e1, r_e2, w_e2, r_o7, r_o8, r_o9, r_o10, r_o1, r_o5, r_o6, r_o11, r_o12, r_o21, r_o23, r_p0, r_p1, r_p2, r_s0, r_s1, r_s2, r_s3, i3_add1, i3_add, i3_mul, i3_addl, i3_mull, i3_ladd, i3_lmul, i3_div4, i3_le, i3_lt, i3_eq, i3_lel, i3_lle, i3_ltl, i3_llt, i3_eql, i3_leq, i3_nl, i3_0l, i3_nn, n1_lt, n1_le, xi_i3, xin_i3, xi_lit, xin_lit, xb0, xb1, gd_t, nz4, Option.bind_some, gR_emb, gN_emb, gL_emb, ↓reduceIte, if_true, if_false, not_true_eq_false, not_false_eq_true, eq_self, Nat.not_lt_zero, Nat.zero_le, true_or, or_true, false_or, or_false, true_and, and_true, false_and, and_false, a3, m2]
    rw [if_neg (by omega), if_neg (by omega)]
    simp (disch := first | assumption | omega) only [l0_7, l0_8, l0_9, l0_10, l0_11, l0_12, l0_13, l0_14, l0_15, l2_0, l2_5, l2_6, l2_7, l2_8, l2_9, l2_12, l2_13, l7_4, l7_5, l7_6, l7_7, l8_0, l8_1, l8_2, l9_1, l9_2, l9_3, l9_4, l4_0_0, l4_0_1, l4_0_2, l4_0_3, l3_0_2, l3_0_3, l3_0_4, l3_0_5, l10_0_0, l1_0_1, l1_0_2, l1_0_3, l1_1_1, l1_1_2, l1_1_3, l1_2_1, l1_2_2, l1_2_3, l5_0_0, l5_0_2, l5_0_3, l5_0_4, l11_0_0, l11_0_5, l11_0_6, l11_0_7, l11_0_8, l11_0_9, l11_0_10, l11_0_11, l11_0_12, l11_0_13, l24_0_0, l24_0_1, l25_0_0, l25_0_1, l12_0_1, l12_0_4, l12_0_5, l12_0_6, l12_0_9, l12_0_10, l12_0_11, l12_0_13, l12_0_14, l12_0_15, l12_0_16, l12_0_17, l12_0_18, l12_0_19, l12_0_23, l12_0_24, l12_0_25, l12_0_27, n_a0, n_a1, n_a2, n_a3, n_a4, n_a5, n_a6, n_a7, n_a8, n_a9, n_a10, n_b0, n_b1, n_b2, n_p0, n_p1, n_p2, n_p3, n_p4, n_s0, n_s1, n_s2, n_s3, n_nm, n20_18, n20_19, n20_20, n20_21, n20_44, n20_45, n20_46, n20_47, n20_48, n20_49, n20_83, n20_84, n20_85, n20_86, n20_87, n20_88, n20_89, n20_90, n20_91, n20_92, n20_93, n20_94, n20_95, n20_96, n20_97, n20_98, n21_2, n21_3, n21_4, n21_5, n21_6, n22_6, n22_7, n22_17, n22_18, n22_19, n22_20, n23_0, n24_0, n25_0, r_a0, w_a0, r_a1, w_a1, r_a2, w_a2, r_a3, w_a3, r_a4, w_a4, r_a5, w_a5, r_a6, w_a6, r_a7, w_a7, r_a8, w_a8, r_a9, w_a9, r_a10, w_a10, r_b0, w_b0, r_b1, w_b1, r_b2, w_b2, r_d, w_d, r_c, w_c, r_e, w_e, r_t, w_t, r_f0, w_f0, r_f1, w_f1, r_f2, w_f2, r_f3, w_f3, r_e0, w_e0, r_e1, w_e1, r_e2, w_e2, r_o7, r_o8, r_o9, r_o10, r_o1, r_o5, r_o6, r_o11, r_o12, r_o21, r_o23, r_p0, r_p1, r_p2, r_s0, r_s1, r_s2, r_s3, i3_add1, i3_add, i3_mul, i3_addl, i3_mull, i3_ladd, i3_lmul, i3_div4, i3_le, i3_lt, i3_eq, i3_lel, i3_lle, i3_ltl, i3_llt, i3_eql, i3_leq, i3_nl, i3_0l, i3_nn, n1_lt, n1_le, xi_i3, xin_i3, xi_lit, xin_lit, xb0, xb1, gd_t, nz4, Option.bind_some, gR_emb, gN_emb, gL_emb, ↓reduceIte, if_true, if_false, not_true_eq_false, not_false_eq_true, eq_self, Nat.not_lt_zero, Nat.zero_le, true_or, or_true, false_or, or_false, true_and, and_true, false_and, and_false, s1, bz_0]
    have hfu : hfC D g (p + i) = (! alikeB D mp g && ! alikeB D mp (D 17)) := by unfold hfC; rw [m2, xi_i3 (by omega)]
    rw [hfu] at ih2
    cases e1 : alikeB D mp g with
    | true =>
      rw [e1] at ih2
      rw [if_pos (by decide)]
      rw [Bool.not_true, Bool.false_and, if_neg (by decide), hv] at ih2
      exact ih2
    | false =>
      rw [e1] at ih2
      rw [if_neg (by decide)]
      simp (disch := first | assumption | omega) only [l0_7, l0_8, l0_9, l0_10, l0_11, l0_12, l0_13, l0_14, l0_15, l2_0, l2_5, l2_6, l2_7, l2_8, l2_9, l2_12, l2_13, l7_4, l7_5, l7_6, l7_7, l8_0, l8_1, l8_2, l9_1, l9_2, l9_3, l9_4, l4_0_0, l4_0_1, l4_0_2, l4_0_3, l3_0_2, l3_0_3, l3_0_4, l3_0_5, l10_0_0, l1_0_1, l1_0_2, l1_0_3, l1_1_1, l1_1_2, l1_1_3, l1_2_1, l1_2_2, l1_2_3, l5_0_0, l5_0_2, l5_0_3, l5_0_4, l11_0_0, l11_0_5, l11_0_6, l11_0_7, l11_0_8, l11_0_9, l11_0_10, l11_0_11, l11_0_12, l11_0_13, l24_0_0, l24_0_1, l25_0_0, l25_0_1, l12_0_1, l12_0_4, l12_0_5, l12_0_6, l12_0_9, l12_0_10, l12_0_11, l12_0_13, l12_0_14, l12_0_15, l12_0_16, l12_0_17, l12_0_18, l12_0_19, l12_0_23, l12_0_24, l12_0_25, l12_0_27, n_a0, n_a1, n_a2, n_a3, n_a4, n_a5, n_a6, n_a7, n_a8, n_a9, n_a10, n_b0, n_b1, n_b2, n_p0, n_p1, n_p2, n_p3, n_p4, n_s0, n_s1, n_s2, n_s3, n_nm, n20_18, n20_19, n20_20, n20_21, n20_44, n20_45, n20_46, n20_47, n20_48, n20_49, n20_83, n20_84, n20_85, n20_86, n20_87, n20_88, n20_89, n20_90, n20_91, n20_92, n20_93, n20_94, n20_95, n20_96, n20_97, n20_98, n21_2, n21_3, n21_4, n21_5, n21_6, n22_6, n22_7, n22_17, n22_18, n22_19, n22_20, n23_0, n24_0, n25_0, r_a0, w_a0, r_a1, w_a1, r_a2, w_a2, r_a3, w_a3, r_a4, w_a4, r_a5, w_a5, r_a6, w_a6, r_a7, w_a7, r_a8, w_a8, r_a9, w_a9, r_a10, w_a10, r_b0, w_b0, r_b1, w_b1, r_b2, w_b2, r_d, w_d, r_c, w_c, r_e, w_e, r_t, w_t, r_f0, w_f0, r_f1, w_f1, r_f2, w_f2, r_f3, w_f3, r_e0, w_e0, r_e1, w_e1, r_e2, w_e2, r_o7, r_o8, r_o9, r_o10, r_o1, r_o5, r_o6, r_o11, r_o12, r_o21, r_o23, r_p0, r_p1, r_p2, r_s0, r_s1, r_s2, r_s3, i3_add1, i3_add, i3_mul, i3_addl, i3_mull, i3_ladd, i3_lmul, i3_div4, i3_le, i3_lt, i3_eq, i3_lel, i3_lle, i3_ltl, i3_llt, i3_eql, i3_leq, i3_nl, i3_0l, i3_nn, n1_lt, n1_le, xi_i3, xin_i3, xi_lit, xin_lit, xb0, xb1, gd_t, nz4, Option.bind_some, gR_emb, gN_emb, gL_emb, ↓reduceIte, if_true, if_false, not_true_eq_false, not_false_eq_true, eq_self, Nat.not_lt_zero, Nat.zero_le, true_or, or_true, false_or, or_false, true_and, and_true, false_and, and_false, s2, bz_0]
      cases e2 : alikeB D mp (D 17) with
      | true =>
        rw [e2] at ih2
        rw [if_pos (by decide)]
        rw [if_neg (by decide), hv] at ih2
        exact ih2
      | false =>
        rw [e2] at ih2
        rw [if_neg (by decide), sI_not ow_5, j_1, j_s1, ← hv, i3_add1]
        rw [if_pos (by decide)] at ih2
        exact ih2
end
