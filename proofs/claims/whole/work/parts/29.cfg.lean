/-! ===== the plan; puts ===== -/
abbrev xC : Type := Nat → Nat → Nat
/-- 0: blocks, slots, reserve, files, the rule's size; 1: kinds; 2: pages -/
def Cfg (C : xC) (R : Nat → Int32) (a : Nat) (M : xM) : Prop :=
  C 0 0 ≤ 6 ∧ C 0 1 ≤ 6 ∧ C 0 2 ≤ 8 ∧ C 0 3 ≤ 5 ∧ C 0 4 ≤ 1000 ∧ gI M 7 a 0 = i3 (C 0 0) ∧ gI M 7 a 1 = i3 (C 0 1) ∧ gI M 7 a 2 = i3 (C 0 2) ∧ gI M 7 a 3 = i3 (C 0 3) ∧ gI M 8 a 3 = i3 (C 0 4) ∧
  (∀ f, f < C 0 3 → C 1 f < 4 ∧ 1 ≤ C 2 f ∧ C 2 f ≤ 4 ∧ gI M 20 (5 * a + 0) f = i3 (C 1 f) ∧ gI M 20 (5 * a + 1) f = i3 (C 2 f)) ∧ ∀ i, i < C 0 4 → gI M 20 (5 * a + 2) i = R i
theorem ow_w {d a : Nat} (ha : a < 2) : own d 20 (5 * a + 3) = some (25 + 2 * a) := by
  match a, ha with
  | 0, _ => exact ow_s3 d
  | 1, _ => exact ow_s8 d
theorem ow_v {d a : Nat} (ha : a < 2) : own d 20 (5 * a + 4) = some (26 + 2 * a) := by
  match a, ha with
  | 0, _ => exact ow_s4 d
  | 1, _ => exact ow_s9 d
theorem Cfg_emb {C : xC} {R : Nat → Int32} {a d : Nat} {D : xT} {M : xM} (ha : a < 2) (h : Cfg C R a M) : Cfg C R a (emb d D M) := by
  obtain ⟨c1, c2, c3, c4, c5, c6, c7, c8, c9, c10, c11, c12⟩ := h
  refine ⟨c1, c2, c3, c4, c5, ?_, ?_, ?_, ?_, ?_, fun f hf => ?_, fun i hi => ?_⟩
  · rw [r_o7]; exact c6
  · rw [r_o7]; exact c7
  · rw [r_o7]; exact c8
  · rw [r_o7]; exact c9
  · rw [r_o8]; exact c10
  · rw [r_p0 ha, r_p1 ha]; exact c11 f hf
  · rw [r_p2 ha]; exact c12 i hi
def isFileB (C : xC) (x : Int32) : Bool := ! decide (x < 0) && ! decide (i3 (C 0 3) ≤ x)
def isPageB (C : xC) (x y : Int32) : Bool := isFileB C x && (! decide (y < 0) && ! decide (i3 (C 2 (xi x)) ≤ y))
theorem isFile_ex {C : xC} {x : Int32} (h : isFileB C x = true) (hc : C 0 3 ≤ 5) : ∃ f, f < C 0 3 ∧ x = i3 f := by
  unfold isFileB at h
  simp only [Bool.and_eq_true, Bool.not_eq_true', decide_eq_false_iff_not] at h
  obtain ⟨n, hn, rfl⟩ := i3_of (Int32.not_lt.mp h.1)
  rw [i3_le (by omega) hn] at h
  exact ⟨n, by omega, rfl⟩
theorem isFile_i3 {C : xC} {f : Nat} (hf : f < 2147483648) (hc : C 0 3 ≤ 5) : isFileB C (i3 f) = decide (f < C 0 3) := by
  unfold isFileB
  by_cases c : f < C 0 3
  · simp [i3_nl hf, i3_le (show C 0 3 < 2147483648 by omega) hf, c]
  · simp [i3_nl hf, i3_le (show C 0 3 < 2147483648 by omega) hf, c]; omega
theorem isPage_ex {C : xC} {x y : Int32} (h : isPageB C x y = true) (hc : C 0 3 ≤ 5) (h2 : ∀ f, f < C 0 3 → C 2 f ≤ 4) : ∃ f p, f < C 0 3 ∧ p < C 2 f ∧ x = i3 f ∧ y = i3 p := by
  unfold isPageB at h
  simp only [Bool.and_eq_true, Bool.not_eq_true', decide_eq_false_iff_not] at h
  obtain ⟨f, hf, rfl⟩ := isFile_ex h.1 hc
  obtain ⟨p, hp, rfl⟩ := i3_of (Int32.not_lt.mp h.2.1)
  have := h2 f hf
  rw [xi_i3 (by omega), i3_le (by omega) hp] at h
  exact ⟨f, p, hf, by omega, rfl, rfl⟩
section
variable {M : xM} {D : xT} {C : xC} {R : Nat → Int32} {d fu nb nw a : Nat}
theorem e_isFile (hC : Cfg C R a M) {x : Int32} : F_X7_isFile fu a x M = some (bz (isFileB C x), M) := by
  obtain ⟨c1, c2, c3, c4, c5, c6, c7, c8, c9, c10, c11, c12⟩ := hC
  unfold F_X7_isFile isFileB
  simp (disch := first | assumption | omega) only [l0_7, l0_8, l0_9, l0_10, l0_11, l0_12, l0_13, l0_14, l0_15, l2_0, l2_5, l2_6, l2_7, l2_8, l2_9, l2_12, l2_13, l7_4, l7_5, l7_6, l7_7, l8_0, l8_1, l8_2, l9_1, l9_2, l9_3, l9_4, l4_0_0, l4_0_1, l4_0_2, l4_0_3, l3_0_2, l3_0_3, l3_0_4, l3_0_5, l10_0_0, l1_0_1, l1_0_2, l1_0_3, l1_1_1, l1_1_2, l1_1_3, l1_2_1, l1_2_2, l1_2_3, l5_0_0, l5_0_2, l5_0_3, l5_0_4, l11_0_0, l11_0_5, l11_0_6, l11_0_7, l11_0_8, l11_0_9, l11_0_10, l11_0_11, l11_0_12, l11_0_13, l24_0_0, l24_0_1, l25_0_0, l25_0_1, l12_0_1, l12_0_4, l12_0_5, l12_0_6, l12_0_9, l12_0_10, l12_0_11, l12_0_13, l12_0_14, l12_0_15, l12_0_16, l12_0_17, l12_0_18, l12_0_19, l12_0_23, l12_0_24, l12_0_25, l12_0_27, n_a0, n_a1, n_a2, n_a3, n_a4, n_a5, n_a6, n_a7, n_a8, n_a9, n_a10, n_b0, n_b1, n_b2, n_p0, n_p1, n_p2, n_p3, n_p4, n_s0, n_s1, n_s2, n_s3, n_nm, n20_18, n20_19, n20_20, n20_21, n20_44, n20_45, n20_46, n20_47, n20_48, n20_49, n20_83, n20_84, n20_85, n20_86, n20_87, n20_88, n20_89, n20_90, n20_91, n20_92, n20_93, n20_94, n20_95, n20_96, n20_97, n20_98, n21_2, n21_3, n21_4, n21_5, n21_6, n22_6, n22_7, n22_17, n22_18, n22_19, n22_20, n23_0, n24_0, n25_0, r_a0, w_a0, r_a1, w_a1, r_a2, w_a2, r_a3, w_a3, r_a4, w_a4, r_a5, w_a5, r_a6, w_a6, r_a7, w_a7, r_a8, w_a8, r_a9, w_a9, r_a10, w_a10, r_b0, w_b0, r_b1, w_b1, r_b2, w_b2, r_d, w_d, r_c, w_c, r_e, w_e, r_t, w_t, r_f0, w_f0, r_f1, w_f1, r_f2, w_f2, r_f3, w_f3, r_e0, w_e0, r_e1, w_e1, r_e2, w_e2, r_o7, r_o8, r_o9, r_o10, r_o1, r_o5, r_o6, r_o11, r_o12, r_o21, r_o23, r_p0, r_p1, r_p2, r_s0, r_s1, r_s2, r_s3, i3_add1, i3_add, i3_mul, i3_addl, i3_mull, i3_ladd, i3_lmul, i3_div4, i3_le, i3_lt, i3_eq, i3_lel, i3_lle, i3_ltl, i3_llt, i3_eql, i3_leq, i3_nl, i3_0l, i3_nn, n1_lt, n1_le, xi_i3, xin_i3, xi_lit, xin_lit, xb0, xb1, gd_t, nz4, Option.bind_some, gR_emb, gN_emb, gL_emb, ↓reduceIte, if_true, if_false, not_true_eq_false, not_false_eq_true, eq_self, Nat.not_lt_zero, Nat.zero_le, true_or, or_true, false_or, or_false, true_and, and_true, false_and, and_false, c9]
  by_cases h1 : x < 0
  · simp [h1, bz]
  · by_cases h2 : i3 (C 0 3) ≤ x
    · simp [h1, h2, bz]
    · obtain ⟨n, hn, rfl⟩ := i3_of (Int32.not_lt.mp h1)
      rw [i3_le (by omega) hn] at h2
      have : ¬ ((5 : Int32) ≤ i3 n) := fun q => by have := (i3_le (a := 5) (by decide) hn).mp q; omega
      have h3 : ¬ (i3 (C 0 3) ≤ i3 n) := fun q => h2 ((i3_le (by omega) hn).mp q)
      simp only [i3_nl hn, h3, this, if_false]
      simp [bz]
theorem e_isPage (h : Lay M) (ha : a < 2) (hC : Cfg C R a M) {x y : Int32} : F_X7_isPage fu a x y M = some (bz (isPageB C x y), M) := by
  have hC' := hC
  obtain ⟨c1, c2, c3, c4, c5, c6, c7, c8, c9, c10, c11, c12⟩ := hC
  unfold F_X7_isPage isPageB
  rw [e_isFile hC']
  cases e : isFileB C x with
  | false => simp (disch := first | assumption | omega) only [l0_7, l0_8, l0_9, l0_10, l0_11, l0_12, l0_13, l0_14, l0_15, l2_0, l2_5, l2_6, l2_7, l2_8, l2_9, l2_12, l2_13, l7_4, l7_5, l7_6, l7_7, l8_0, l8_1, l8_2, l9_1, l9_2, l9_3, l9_4, l4_0_0, l4_0_1, l4_0_2, l4_0_3, l3_0_2, l3_0_3, l3_0_4, l3_0_5, l10_0_0, l1_0_1, l1_0_2, l1_0_3, l1_1_1, l1_1_2, l1_1_3, l1_2_1, l1_2_2, l1_2_3, l5_0_0, l5_0_2, l5_0_3, l5_0_4, l11_0_0, l11_0_5, l11_0_6, l11_0_7, l11_0_8, l11_0_9, l11_0_10, l11_0_11, l11_0_12, l11_0_13, l24_0_0, l24_0_1, l25_0_0, l25_0_1, l12_0_1, l12_0_4, l12_0_5, l12_0_6, l12_0_9, l12_0_10, l12_0_11, l12_0_13, l12_0_14, l12_0_15, l12_0_16, l12_0_17, l12_0_18, l12_0_19, l12_0_23, l12_0_24, l12_0_25, l12_0_27, n_a0, n_a1, n_a2, n_a3, n_a4, n_a5, n_a6, n_a7, n_a8, n_a9, n_a10, n_b0, n_b1, n_b2, n_p0, n_p1, n_p2, n_p3, n_p4, n_s0, n_s1, n_s2, n_s3, n_nm, n20_18, n20_19, n20_20, n20_21, n20_44, n20_45, n20_46, n20_47, n20_48, n20_49, n20_83, n20_84, n20_85, n20_86, n20_87, n20_88, n20_89, n20_90, n20_91, n20_92, n20_93, n20_94, n20_95, n20_96, n20_97, n20_98, n21_2, n21_3, n21_4, n21_5, n21_6, n22_6, n22_7, n22_17, n22_18, n22_19, n22_20, n23_0, n24_0, n25_0, r_a0, w_a0, r_a1, w_a1, r_a2, w_a2, r_a3, w_a3, r_a4, w_a4, r_a5, w_a5, r_a6, w_a6, r_a7, w_a7, r_a8, w_a8, r_a9, w_a9, r_a10, w_a10, r_b0, w_b0, r_b1, w_b1, r_b2, w_b2, r_d, w_d, r_c, w_c, r_e, w_e, r_t, w_t, r_f0, w_f0, r_f1, w_f1, r_f2, w_f2, r_f3, w_f3, r_e0, w_e0, r_e1, w_e1, r_e2, w_e2, r_o7, r_o8, r_o9, r_o10, r_o1, r_o5, r_o6, r_o11, r_o12, r_o21, r_o23, r_p0, r_p1, r_p2, r_s0, r_s1, r_s2, r_s3, i3_add1, i3_add, i3_mul, i3_addl, i3_mull, i3_ladd, i3_lmul, i3_div4, i3_le, i3_lt, i3_eq, i3_lel, i3_lle, i3_ltl, i3_llt, i3_eql, i3_leq, i3_nl, i3_0l, i3_nn, n1_lt, n1_le, xi_i3, xin_i3, xi_lit, xin_lit, xb0, xb1, gd_t, nz4, Option.bind_some, gR_emb, gN_emb, gL_emb, ↓reduceIte, if_true, if_false, not_true_eq_false, not_false_eq_true, eq_self, Nat.not_lt_zero, Nat.zero_le, true_or, or_true, false_or, or_false, true_and, and_true, false_and, and_false, bz_f, Bool.false_and]
  | true =>
    obtain ⟨f, hf, rfl⟩ := isFile_ex e c4
    simp (disch := first | assumption | omega) only [l0_7, l0_8, l0_9, l0_10, l0_11, l0_12, l0_13, l0_14, l0_15, l2_0, l2_5, l2_6, l2_7, l2_8, l2_9, l2_12, l2_13, l7_4, l7_5, l7_6, l7_7, l8_0, l8_1, l8_2, l9_1, l9_2, l9_3, l9_4, l4_0_0, l4_0_1, l4_0_2, l4_0_3, l3_0_2, l3_0_3, l3_0_4, l3_0_5, l10_0_0, l1_0_1, l1_0_2, l1_0_3, l1_1_1, l1_1_2, l1_1_3, l1_2_1, l1_2_2, l1_2_3, l5_0_0, l5_0_2, l5_0_3, l5_0_4, l11_0_0, l11_0_5, l11_0_6, l11_0_7, l11_0_8, l11_0_9, l11_0_10, l11_0_11, l11_0_12, l11_0_13, l24_0_0, l24_0_1, l25_0_0, l25_0_1, l12_0_1, l12_0_4, l12_0_5, l12_0_6, l12_0_9, l12_0_10, l12_0_11, l12_0_13, l12_0_14, l12_0_15, l12_0_16, l12_0_17, l12_0_18, l12_0_19, l12_0_23, l12_0_24, l12_0_25, l12_0_27, n_a0, n_a1, n_a2, n_a3, n_a4, n_a5, n_a6, n_a7, n_a8, n_a9, n_a10, n_b0, n_b1, n_b2, n_p0, n_p1, n_p2, n_p3, n_p4, n_s0, n_s1, n_s2, n_s3, n_nm, n20_18, n20_19, n20_20, n20_21, n20_44, n20_45, n20_46, n20_47, n20_48, n20_49, n20_83, n20_84, n20_85, n20_86, n20_87, n20_88, n20_89, n20_90, n20_91, n20_92, n20_93, n20_94, n20_95, n20_96, n20_97, n20_98, n21_2, n21_3, n21_4, n21_5, n21_6, n22_6, n22_7, n22_17, n22_18, n22_19, n22_20, n23_0, n24_0, n25_0, r_a0, w_a0, r_a1, w_a1, r_a2, w_a2, r_a3, w_a3, r_a4, w_a4, r_a5, w_a5, r_a6, w_a6, r_a7, w_a7, r_a8, w_a8, r_a9, w_a9, r_a10, w_a10, r_b0, w_b0, r_b1, w_b1, r_b2, w_b2, r_d, w_d, r_c, w_c, r_e, w_e, r_t, w_t, r_f0, w_f0, r_f1, w_f1, r_f2, w_f2, r_f3, w_f3, r_e0, w_e0, r_e1, w_e1, r_e2, w_e2, r_o7, r_o8, r_o9, r_o10, r_o1, r_o5, r_o6, r_o11, r_o12, r_o21, r_o23, r_p0, r_p1, r_p2, r_s0, r_s1, r_s2, r_s3, i3_add1, i3_add, i3_mul, i3_addl, i3_mull, i3_ladd, i3_lmul, i3_div4, i3_le, i3_lt, i3_eq, i3_lel, i3_lle, i3_ltl, i3_llt, i3_eql, i3_leq, i3_nl, i3_0l, i3_nn, n1_lt, n1_le, xi_i3, xin_i3, xi_lit, xin_lit, xb0, xb1, gd_t, nz4, Option.bind_some, gR_emb, gN_emb, gL_emb, ↓reduceIte, if_true, if_false, not_true_eq_false, not_false_eq_true, eq_self, Nat.not_lt_zero, Nat.zero_le, true_or, or_true, false_or, or_false, true_and, and_true, false_and, and_false, bz_t, ne10, Bool.true_and, (c11 f hf).2.2.2.2]
    by_cases h1 : y < 0
    · simp [h1, bz]
    · by_cases h2 : i3 (C 2 f) ≤ y <;> simp [h1, h2, bz]
end
/-! puts -/
def tornT (D : xT) (s : Nat) : xT := forgetT (up (up (fillT D s 4 (-1) (-1) (-1) (-1)) 14 1 0) 14 2 0)
def putA (nt : Bool) (D : xT) (nb nw : Nat) : xT := if nt then noteT (findT (up D 14 11 0) (nb * nw)) else up D 14 11 0
def putT (nt : Bool) (D : xT) (nb nw : Nat) : Option Nat × xT :=
  match takeT D nb nw with
  | (none, D1) => (none, D1)
  | (some s, D1) =>
    let D3 := putA nt D1 nb nw
    if D3 14 2 = 1 then (none, tornT D3 s) else (some s, if D3 14 2 ≤ 1 then D3 else up D3 14 2 (D3 14 2 - 1))
def Okd (d nb nw : Nat) (D : xT) : Prop := Ok nb nw D ∧ (d = 2 → OkE D)
section
variable {M : xM} {D : xT} {C : xC} {R : Nat → Int32} {d fu nb nw a : Nat}
theorem firstT_lt {b i : Nat} (e : firstT D nw b = some i) : i < nw := (lst_some.mp e).1
theorem takeAt_spec {b : Nat} (hb : b < nb) : (∀ s, (takeAt D nw b).1 = some s → s < nb * nw ∧ D 2 s = 0) ∧ ∀ j k, (j ≠ 1 ∧ (j ≠ 15 ∨ k ≠ 3)) → (takeAt D nw b).2 j k = D j k := by
  unfold takeAt
  cases e : firstT D nw b with
  | none => exact ⟨fun s h => (by cases h), fun j k _ => rfl⟩
  | some i =>
    have hi := lst_some.mp e
    have := blk (nw := nw) hb
    refine ⟨fun s h => ?_, fun j k hj => ?_⟩
    · injection h with h; subst h
      exact ⟨by omega, by simpa using hi.2.1⟩
    · show up (up D 1 b _) 15 3 _ j k = D j k
      rw [up_at, if_neg (by omega), up_at, if_neg (by omega)]
theorem takeT_spec (hO : Ok nb nw D) : (∀ s, (takeT D nb nw).1 = some s → s < nb * nw ∧ D 2 s = 0) ∧ (∀ j k, (j ≠ 1 ∧ (j ≠ 15 ∨ k ≠ 3 ∧ k ≠ 4)) → (takeT D nb nw).2 j k = D j k) ∧ ((takeT D nb nw).2 15 4 = -1 ∨ ∃ h, h < nb ∧ (takeT D nb nw).2 15 4 = i3 h) := by
  unfold takeT
  have o6 := hO.2.2.2.2.2.1
  have o1 := hO.1
  by_cases c : D 15 4 < 0 ∨ D 1 (xi (D 15 4)) = 0
  · rw [if_pos c]
    rcases freshF_in D nb with e | ⟨b, hb, e, -, -⟩
    · rw [e, if_pos (by decide)]
      exact ⟨fun s h => (by cases h), fun j k _ => rfl, o6⟩
    · have eb : b < 2147483648 := by omega
      simp only [e, i3_nl eb, if_false, xi_i3 eb]
      have t := takeAt_spec (D := up D 15 4 (i3 b)) (nw := nw) hb
      refine ⟨fun s h => ?_, fun j k hj => ?_, ?_⟩
      · have := t.1 s h
        rw [up_at, if_neg (by omega)] at this; exact this
      · rw [t.2 j k (by omega), up_at, if_neg (by omega)]
      · rw [t.2 15 4 (by omega), up_at, if_pos ⟨rfl, rfl⟩]; exact Or.inr ⟨b, hb, rfl⟩
  · rw [if_neg c]
    rcases o6 with e | ⟨b, hb, e⟩
    · exact absurd (Or.inl (by rw [e]; decide)) c
    · rw [e, xi_i3 (by omega)]
      have t := takeAt_spec (D := D) (nw := nw) hb
      refine ⟨t.1, fun j k hj => t.2 j k (by omega), ?_⟩
      rw [t.2 15 4 (by omega), e]; exact Or.inr ⟨b, hb, rfl⟩
theorem Ok_take (hO : Ok nb nw D) : Ok nb nw (takeT D nb nw).2 := by
  obtain ⟨-, t2, t3⟩ := takeT_spec hO
  obtain ⟨o1, o2, o3, o4, o5, o6, o7⟩ := hO
  refine ⟨o1, o2, ?_, ?_, ?_, t3, fun s hs => ?_⟩
  · rw [t2 _ _ (by omega)]; exact o3
  · rw [t2 _ _ (by omega)]; exact o4
  · rw [t2 _ _ (by omega)]; exact o5
  · have := o7 s hs
    rw [t2 2 _ (by omega), t2 4 _ (by omega), t2 5 _ (by omega), t2 6 _ (by omega)]
    refine ⟨this.1, this.2.1, fun a n hn hl => ?_⟩
    rw [t2 7 _ (by omega)]
    exact this.2.2 a n hn hl
theorem noteAt_lo {m j k : Nat} (h : j < 20 ∨ 24 < j) : noteAt D m j k = D j k := by
  unfold noteAt; simp only [up_at]; rw [if_neg (by omega), if_neg (by omega), if_neg (by omega)]
theorem noteNew_lo {m j k : Nat} (h : j < 20 ∨ 24 < j) : noteNew D m j k = D j k := by
  unfold noteNew cpT; simp only [up_at]; rw [if_neg (by omega), if_neg (by omega), if_neg (by omega)]
theorem noteT_lo {j k : Nat} (h : j < 20 ∨ 24 < j) : noteT D j k = D j k := by
  unfold noteT
  split
  · cases lastAl D (D 17) (xi (D 24 1)) with
    | some m => exact noteAt_lo h
    | none => exact (noteAt_lo h).trans (noteNew_lo h)
  · rfl
theorem OkE_note (hE : OkE D) : OkE (noteT D) := by
  obtain ⟨P, K, hP, hK, e0, e1⟩ := hE
  unfold noteT
  have eP : P < 2147483648 := by omega
  have eK : K < 2147483648 := by omega
  simp only [e0, e1, i3_ltl eP (show (288 : Nat) < 2147483648 by decide), xi_i3 eK]
  by_cases c : P < 288
  · rw [if_pos c]
    cases lastAl D (D 17) K with
    | some m =>
      refine ⟨P + 1, K, by omega, by omega, ?_, ?_⟩
      · show up (up (up D 21 m _) 22 _ _) 24 0 (D 24 0 + 1) 24 0 = _
        rw [up_at, if_pos ⟨rfl, rfl⟩, e0, i3_add1]
      · show up (up (up D 21 m _) 22 _ _) 24 0 (D 24 0 + 1) 24 1 = _
        rw [up_at, if_neg (by omega), up_at, if_neg (by omega), up_at, if_neg (by omega), e1]
    | none =>
      have q0 : noteNew D K 24 0 = i3 P := by unfold noteNew cpT; simp only [up_at]; rw [if_neg (by omega), if_neg (by omega), if_neg (by omega), e0]
      have q1 : noteNew D K 24 1 = i3 (K + 1) := by unfold noteNew; rw [up_at, if_pos ⟨rfl, rfl⟩, e1, i3_add1]
      refine ⟨P + 1, K + 1, by omega, by omega, ?_, ?_⟩
      · show up (up (up (noteNew D K) 21 K _) 22 _ _) 24 0 (noteNew D K 24 0 + 1) 24 0 = _
        rw [up_at, if_pos ⟨rfl, rfl⟩, q0, i3_add1]
      · show up (up (up (noteNew D K) 21 K _) 22 _ _) 24 0 (noteNew D K 24 0 + 1) 24 1 = _
        rw [up_at, if_neg (by omega), up_at, if_neg (by omega), up_at, if_neg (by omega), q1]
  · rw [if_neg c]; exact ⟨P, K, hP, hK, e0, e1⟩
theorem putA_lo {nt : Bool} {j k : Nat} (h : j < 14 ∨ j = 14 ∧ k ≠ 11 ∨ j = 15 ∨ 24 < j) : putA nt D nb nw j k = D j k := by
  unfold putA
  cases nt with
  | false => simp only [Bool.false_eq_true, if_false]; rw [up_at, if_neg (by omega)]
  | true => simp only [if_true]; rw [noteT_lo (by omega), findT_lo (by omega), up_at, if_neg (by omega)]
theorem OkE_congr {E : xT} (hE : OkE D) (h : ∀ k, E 24 k = D 24 k) : OkE E := by
  obtain ⟨P, K, hP, hK, e0, e1⟩ := hE
  exact ⟨P, K, hP, hK, by rw [h, e0], by rw [h, e1]⟩
theorem OkE_putA {nt : Bool} (hE : OkE D) : OkE (putA nt D nb nw) := by
  unfold putA
  cases nt with
  | false => simp only [Bool.false_eq_true, if_false]; exact OkE_congr hE (fun k => by rw [up_at, if_neg (by omega)])
  | true => simp only [if_true]; exact OkE_note (OkE_congr hE (fun k => by rw [findT_lo (by omega), up_at, if_neg (by omega)]))
theorem Ok_putA {nt : Bool} (hO : Ok nb nw D) : Ok nb nw (putA nt D nb nw) := Ok_congr hO (fun j k h => putA_lo (by omega))
theorem Ok_torn {s : Nat} (hO : Ok nb nw D) (k q f p v : Int32) (hk : k = 0 ∨ k = 4) : Ok nb nw (fillT D s k q f p v) := by
  have e : ∀ j' k', (j' < 2 ∨ 6 < j') → fillT D s k q f p v j' k' = D j' k' := by
    intro j' k' h2
    unfold fillT; simp only [up_at]
    rw [if_neg (by omega), if_neg (by omega), if_neg (by omega), if_neg (by omega), if_neg (by omega)]
  have e2 : ∀ j' k', k' ≠ s → fillT D s k q f p v j' k' = D j' k' := by
    intro j' k' h2
    unfold fillT; simp only [up_at]
    rw [if_neg (by omega), if_neg (by omega), if_neg (by omega), if_neg (by omega), if_neg (by omega)]
  obtain ⟨o1, o2, o3, o4, o5, o6, o7⟩ := hO
  refine ⟨o1, o2, ?_, ?_, ?_, ?_, ?_⟩
  · rw [e _ _ (by omega)]; exact o3
  · rw [e _ _ (by omega)]; exact o4
  · rw [e _ _ (by omega)]; exact o5
  · rw [e _ _ (by omega)]; exact o6
  · intro x hx
    by_cases c : x = s
    · subst c
      have q2 : fillT D x k q f p v 2 x = k := by unfold fillT; simp [up_at]
      rw [q2]
      rcases hk with rfl | rfl <;> exact ⟨fun h => absurd h (by decide), fun h => absurd h (by decide), fun h => absurd h (by decide)⟩
    · have := o7 x hx
      rw [e2 2 _ c, e2 4 _ c, e2 5 _ c, e2 6 _ c]
      refine ⟨this.1, this.2.1, fun a n hn hl => ?_⟩
      rw [e 7 _ (by omega)]
      exact this.2.2 a n hn hl
theorem forgetT_lo {j k : Nat} (h : j ≠ 9 ∧ j ≠ 11 ∧ j ≠ 12 ∧ (j ≠ 14 ∨ k ≠ 11)) : forgetT D j k = D j k := by
  unfold forgetT; rw [if_neg (by omega), if_neg (by omega), if_neg (by omega)]
theorem Ok_tornT {s : Nat} (hO : Ok nb nw D) : Ok nb nw (tornT D s) := by
  refine Ok_congr (Ok_torn (s := s) hO 4 (-1) (-1) (-1) (-1) (Or.inr rfl)) (fun j k h => ?_)
  unfold tornT
  rw [forgetT_lo (by omega), up_at, if_neg (by omega), up_at, if_neg (by omega)]
theorem OkE_tornT {s : Nat} (hE : OkE D) : OkE (tornT D s) := by
  refine OkE_congr hE (fun k => ?_)
  unfold tornT fillT
  rw [forgetT_lo (by omega)]
  simp only [up_at]
  repeat rw [if_neg (by omega)]
theorem putT_ok {nt : Bool} (hO : Okd d nb nw D) : Okd d nb nw (putT nt D nb nw).2 ∧ ∀ s, (putT nt D nb nw).1 = some s → s < nb * nw := by
  have hT := Ok_take hO.1
  have hS := takeT_spec hO.1
  have hE : d = 2 → OkE (takeT D nb nw).2 := fun q => OkE_congr (hO.2 q) (fun k => hS.2.1 _ _ (by omega))
  unfold putT
  generalize takeT D nb nw = t at hT hS hE ⊢
  obtain ⟨o, D1⟩ := t
  cases o with
  | none => exact ⟨⟨hT, hE⟩, fun s h => by cases h⟩
  | some s =>
    simp only
    by_cases c : putA nt D1 nb nw 14 2 = 1
    · rw [if_pos c]
      exact ⟨⟨Ok_tornT (Ok_putA hT), fun q => OkE_tornT (OkE_putA (hE q))⟩, fun s h => by cases h⟩
    · rw [if_neg c]
      refine ⟨?_, fun s' h => by injection h with h; subst h; exact (hS.1 s rfl).1⟩
      by_cases c2 : putA nt D1 nb nw 14 2 ≤ 1
      · rw [if_pos c2]; exact ⟨Ok_putA hT, fun q => OkE_putA (hE q)⟩
      · rw [if_neg c2]
        exact ⟨Ok_up (Ok_putA hT) (by omega), fun q => OkE_congr (OkE_putA (nt := nt) (nb := nb) (nw := nw) (hE q)) (fun k => (show up (putA nt D1 nb nw) 14 2 (putA nt D1 nb nw 14 2 - 1) 24 k = putA nt D1 nb nw 24 k from up_ne (by omega)))⟩
theorem e_put (h : Lay M) (hd : d < 5) (hO : Okd d nb nw D) (hf : 300 < fu) : F_X2_put fu d (emb d D M) = some (on (putT (decide (d = 2)) D nb nw).1, emb d (putT (decide (d = 2)) D nb nw).2 M) := by
  have hT := Ok_take hO.1
  have hS := takeT_spec hO.1
  have hE : d = 2 → OkE (takeT D nb nw).2 := fun q => OkE_congr (hO.2 q) (fun k => hS.2.1 _ _ (by omega))
  have h36 := mul36 hT.1 hT.2.1
  unfold F_X2_put putT
  simp (disch := first | assumption | omega) only [l0_7, l0_8, l0_9, l0_10, l0_11, l0_12, l0_13, l0_14, l0_15, l2_0, l2_5, l2_6, l2_7, l2_8, l2_9, l2_12, l2_13, l7_4, l7_5, l7_6, l7_7, l8_0, l8_1, l8_2, l9_1, l9_2, l9_3, l9_4, l4_0_0, l4_0_1, l4_0_2, l4_0_3, l3_0_2, l3_0_3, l3_0_4, l3_0_5, l10_0_0, l1_0_1, l1_0_2, l1_0_3, l1_1_1, l1_1_2, l1_1_3, l1_2_1, l1_2_2, l1_2_3, l5_0_0, l5_0_2, l5_0_3, l5_0_4, l11_0_0, l11_0_5, l11_0_6, l11_0_7, l11_0_8, l11_0_9, l11_0_10, l11_0_11, l11_0_12, l11_0_13, l24_0_0, l24_0_1, l25_0_0, l25_0_1, l12_0_1, l12_0_4, l12_0_5, l12_0_6, l12_0_9, l12_0_10, l12_0_11, l12_0_13, l12_0_14, l12_0_15, l12_0_16, l12_0_17, l12_0_18, l12_0_19, l12_0_23, l12_0_24, l12_0_25, l12_0_27, n_a0, n_a1, n_a2, n_a3, n_a4, n_a5, n_a6, n_a7, n_a8, n_a9, n_a10, n_b0, n_b1, n_b2, n_p0, n_p1, n_p2, n_p3, n_p4, n_s0, n_s1, n_s2, n_s3, n_nm, n20_18, n20_19, n20_20, n20_21, n20_44, n20_45, n20_46, n20_47, n20_48, n20_49, n20_83, n20_84, n20_85, n20_86, n20_87, n20_88, n20_89, n20_90, n20_91, n20_92, n20_93, n20_94, n20_95, n20_96, n20_97, n20_98, n21_2, n21_3, n21_4, n21_5, n21_6, n22_6, n22_7, n22_17, n22_18, n22_19, n22_20, n23_0, n24_0, n25_0, r_a0, w_a0, r_a1, w_a1, r_a2, w_a2, r_a3, w_a3, r_a4, w_a4, r_a5, w_a5, r_a6, w_a6, r_a7, w_a7, r_a8, w_a8, r_a9, w_a9, r_a10, w_a10, r_b0, w_b0, r_b1, w_b1, r_b2, w_b2, r_d, w_d, r_c, w_c, r_e, w_e, r_t, w_t, r_f0, w_f0, r_f1, w_f1, r_f2, w_f2, r_f3, w_f3, r_e0, w_e0, r_e1, w_e1, r_e2, w_e2, r_o7, r_o8, r_o9, r_o10, r_o1, r_o5, r_o6, r_o11, r_o12, r_o21, r_o23, r_p0, r_p1, r_p2, r_s0, r_s1, r_s2, r_s3, i3_add1, i3_add, i3_mul, i3_addl, i3_mull, i3_ladd, i3_lmul, i3_div4, i3_le, i3_lt, i3_eq, i3_lel, i3_lle, i3_ltl, i3_llt, i3_eql, i3_leq, i3_nl, i3_0l, i3_nn, n1_lt, n1_le, xi_i3, xin_i3, xi_lit, xin_lit, xb0, xb1, gd_t, nz4, Option.bind_some, gR_emb, gN_emb, gL_emb, ↓reduceIte, if_true, if_false, not_true_eq_false, not_false_eq_true, eq_self, Nat.not_lt_zero, Nat.zero_le, true_or, or_true, false_or, or_false, true_and, and_true, false_and, and_false, e_takeSlot h hd hO.1 (show 100 < fu by omega)]
  generalize takeT D nb nw = t at hT hS hE ⊢
  obtain ⟨o, D1⟩ := t
  cases o with
  | none => simp (disch := first | assumption | omega) only [l0_7, l0_8, l0_9, l0_10, l0_11, l0_12, l0_13, l0_14, l0_15, l2_0, l2_5, l2_6, l2_7, l2_8, l2_9, l2_12, l2_13, l7_4, l7_5, l7_6, l7_7, l8_0, l8_1, l8_2, l9_1, l9_2, l9_3, l9_4, l4_0_0, l4_0_1, l4_0_2, l4_0_3, l3_0_2, l3_0_3, l3_0_4, l3_0_5, l10_0_0, l1_0_1, l1_0_2, l1_0_3, l1_1_1, l1_1_2, l1_1_3, l1_2_1, l1_2_2, l1_2_3, l5_0_0, l5_0_2, l5_0_3, l5_0_4, l11_0_0, l11_0_5, l11_0_6, l11_0_7, l11_0_8, l11_0_9, l11_0_10, l11_0_11, l11_0_12, l11_0_13, l24_0_0, l24_0_1, l25_0_0, l25_0_1, l12_0_1, l12_0_4, l12_0_5, l12_0_6, l12_0_9, l12_0_10, l12_0_11, l12_0_13, l12_0_14, l12_0_15, l12_0_16, l12_0_17, l12_0_18, l12_0_19, l12_0_23, l12_0_24, l12_0_25, l12_0_27, n_a0, n_a1, n_a2, n_a3, n_a4, n_a5, n_a6, n_a7, n_a8, n_a9, n_a10, n_b0, n_b1, n_b2, n_p0, n_p1, n_p2, n_p3, n_p4, n_s0, n_s1, n_s2, n_s3, n_nm, n20_18, n20_19, n20_20, n20_21, n20_44, n20_45, n20_46, n20_47, n20_48, n20_49, n20_83, n20_84, n20_85, n20_86, n20_87, n20_88, n20_89, n20_90, n20_91, n20_92, n20_93, n20_94, n20_95, n20_96, n20_97, n20_98, n21_2, n21_3, n21_4, n21_5, n21_6, n22_6, n22_7, n22_17, n22_18, n22_19, n22_20, n23_0, n24_0, n25_0, r_a0, w_a0, r_a1, w_a1, r_a2, w_a2, r_a3, w_a3, r_a4, w_a4, r_a5, w_a5, r_a6, w_a6, r_a7, w_a7, r_a8, w_a8, r_a9, w_a9, r_a10, w_a10, r_b0, w_b0, r_b1, w_b1, r_b2, w_b2, r_d, w_d, r_c, w_c, r_e, w_e, r_t, w_t, r_f0, w_f0, r_f1, w_f1, r_f2, w_f2, r_f3, w_f3, r_e0, w_e0, r_e1, w_e1, r_e2, w_e2, r_o7, r_o8, r_o9, r_o10, r_o1, r_o5, r_o6, r_o11, r_o12, r_o21, r_o23, r_p0, r_p1, r_p2, r_s0, r_s1, r_s2, r_s3, i3_add1, i3_add, i3_mul, i3_addl, i3_mull, i3_ladd, i3_lmul, i3_div4, i3_le, i3_lt, i3_eq, i3_lel, i3_lle, i3_ltl, i3_llt, i3_eql, i3_leq, i3_nl, i3_0l, i3_nn, n1_lt, n1_le, xi_i3, xin_i3, xi_lit, xin_lit, xb0, xb1, gd_t, nz4, Option.bind_some, gR_emb, gN_emb, gL_emb, ↓reduceIte, if_true, if_false, not_true_eq_false, not_false_eq_true, eq_self, Nat.not_lt_zero, Nat.zero_le, true_or, or_true, false_or, or_false, true_and, and_true, false_and, and_false, on]
  | some s =>
    have hs := (hS.1 s rfl).1
    have key : ∀ E, Ok nb nw E → J_X2_put_51 fu d (i3 s) (emb d E M) = some (on (if E 14 2 = 1 then (none, tornT E s) else (some s, if E 14 2 ≤ 1 then E else up E 14 2 (E 14 2 - 1))).1, emb d (if E 14 2 = 1 then (none, tornT E s) else (some s, if E 14 2 ≤ 1 then E else up E 14 2 (E 14 2 - 1))).2 M) := by
      intro E hE
      unfold J_X2_put_51
      by_cases c : E 14 2 = 1
      · simp (disch := first | assumption | omega) only [l0_7, l0_8, l0_9, l0_10, l0_11, l0_12, l0_13, l0_14, l0_15, l2_0, l2_5, l2_6, l2_7, l2_8, l2_9, l2_12, l2_13, l7_4, l7_5, l7_6, l7_7, l8_0, l8_1, l8_2, l9_1, l9_2, l9_3, l9_4, l4_0_0, l4_0_1, l4_0_2, l4_0_3, l3_0_2, l3_0_3, l3_0_4, l3_0_5, l10_0_0, l1_0_1, l1_0_2, l1_0_3, l1_1_1, l1_1_2, l1_1_3, l1_2_1, l1_2_2, l1_2_3, l5_0_0, l5_0_2, l5_0_3, l5_0_4, l11_0_0, l11_0_5, l11_0_6, l11_0_7, l11_0_8, l11_0_9, l11_0_10, l11_0_11, l11_0_12, l11_0_13, l24_0_0, l24_0_1, l25_0_0, l25_0_1, l12_0_1, l12_0_4, l12_0_5, l12_0_6, l12_0_9, l12_0_10, l12_0_11, l12_0_13, l12_0_14, l12_0_15, l12_0_16, l12_0_17, l12_0_18, l12_0_19, l12_0_23, l12_0_24, l12_0_25, l12_0_27, n_a0, n_a1, n_a2, n_a3, n_a4, n_a5, n_a6, n_a7, n_a8, n_a9, n_a10, n_b0, n_b1, n_b2, n_p0, n_p1, n_p2, n_p3, n_p4, n_s0, n_s1, n_s2, n_s3, n_nm, n20_18, n20_19, n20_20, n20_21, n20_44, n20_45, n20_46, n20_47, n20_48, n20_49, n20_83, n20_84, n20_85, n20_86, n20_87, n20_88, n20_89, n20_90, n20_91, n20_92, n20_93, n20_94, n20_95, n20_96, n20_97, n20_98, n21_2, n21_3, n21_4, n21_5, n21_6, n22_6, n22_7, n22_17, n22_18, n22_19, n22_20, n23_0, n24_0, n25_0, r_a0, w_a0, r_a1, w_a1, r_a2, w_a2, r_a3, w_a3, r_a4, w_a4, r_a5, w_a5, r_a6, w_a6, r_a7, w_a7, r_a8, w_a8, r_a9, w_a9, r_a10, w_a10, r_b0, w_b0, r_b1, w_b1, r_b2, w_b2, r_d, w_d, r_c, w_c, r_e, w_e, r_t, w_t, r_f0, w_f0, r_f1, w_f1, r_f2, w_f2, r_f3, w_f3, r_e0, w_e0, r_e1, w_e1, r_e2, w_e2, r_o7, r_o8, r_o9, r_o10, r_o1, r_o5, r_o6, r_o11, r_o12, r_o21, r_o23, r_p0, r_p1, r_p2, r_s0, r_s1, r_s2, r_s3, i3_add1, i3_add, i3_mul, i3_addl, i3_mull, i3_ladd, i3_lmul, i3_div4, i3_le, i3_lt, i3_eq, i3_lel, i3_lle, i3_ltl, i3_llt, i3_eql, i3_leq, i3_nl, i3_0l, i3_nn, n1_lt, n1_le, xi_i3, xin_i3, xi_lit, xin_lit, xb0, xb1, gd_t, nz4, Option.bind_some, gR_emb, gN_emb, gL_emb, ↓reduceIte, if_true, if_false, not_true_eq_false, not_false_eq_true, eq_self, Nat.not_lt_zero, Nat.zero_le, true_or, or_true, false_or, or_false, true_and, and_true, false_and, and_false, c, e_fill h hd (show s < 36 by omega), e_forget h hd (show 100 < fu by omega), tornT, on]
      · by_cases c2 : E 14 2 ≤ 1
        · simp (disch := first | assumption | omega) only [l0_7, l0_8, l0_9, l0_10, l0_11, l0_12, l0_13, l0_14, l0_15, l2_0, l2_5, l2_6, l2_7, l2_8, l2_9, l2_12, l2_13, l7_4, l7_5, l7_6, l7_7, l8_0, l8_1, l8_2, l9_1, l9_2, l9_3, l9_4, l4_0_0, l4_0_1, l4_0_2, l4_0_3, l3_0_2, l3_0_3, l3_0_4, l3_0_5, l10_0_0, l1_0_1, l1_0_2, l1_0_3, l1_1_1, l1_1_2, l1_1_3, l1_2_1, l1_2_2, l1_2_3, l5_0_0, l5_0_2, l5_0_3, l5_0_4, l11_0_0, l11_0_5, l11_0_6, l11_0_7, l11_0_8, l11_0_9, l11_0_10, l11_0_11, l11_0_12, l11_0_13, l24_0_0, l24_0_1, l25_0_0, l25_0_1, l12_0_1, l12_0_4, l12_0_5, l12_0_6, l12_0_9, l12_0_10, l12_0_11, l12_0_13, l12_0_14, l12_0_15, l12_0_16, l12_0_17, l12_0_18, l12_0_19, l12_0_23, l12_0_24, l12_0_25, l12_0_27, n_a0, n_a1, n_a2, n_a3, n_a4, n_a5, n_a6, n_a7, n_a8, n_a9, n_a10, n_b0, n_b1, n_b2, n_p0, n_p1, n_p2, n_p3, n_p4, n_s0, n_s1, n_s2, n_s3, n_nm, n20_18, n20_19, n20_20, n20_21, n20_44, n20_45, n20_46, n20_47, n20_48, n20_49, n20_83, n20_84, n20_85, n20_86, n20_87, n20_88, n20_89, n20_90, n20_91, n20_92, n20_93, n20_94, n20_95, n20_96, n20_97, n20_98, n21_2, n21_3, n21_4, n21_5, n21_6, n22_6, n22_7, n22_17, n22_18, n22_19, n22_20, n23_0, n24_0, n25_0, r_a0, w_a0, r_a1, w_a1, r_a2, w_a2, r_a3, w_a3, r_a4, w_a4, r_a5, w_a5, r_a6, w_a6, r_a7, w_a7, r_a8, w_a8, r_a9, w_a9, r_a10, w_a10, r_b0, w_b0, r_b1, w_b1, r_b2, w_b2, r_d, w_d, r_c, w_c, r_e, w_e, r_t, w_t, r_f0, w_f0, r_f1, w_f1, r_f2, w_f2, r_f3, w_f3, r_e0, w_e0, r_e1, w_e1, r_e2, w_e2, r_o7, r_o8, r_o9, r_o10, r_o1, r_o5, r_o6, r_o11, r_o12, r_o21, r_o23, r_p0, r_p1, r_p2, r_s0, r_s1, r_s2, r_s3, i3_add1, i3_add, i3_mul, i3_addl, i3_mull, i3_ladd, i3_lmul, i3_div4, i3_le, i3_lt, i3_eq, i3_lel, i3_lle, i3_ltl, i3_llt, i3_eql, i3_leq, i3_nl, i3_0l, i3_nn, n1_lt, n1_le, xi_i3, xin_i3, xi_lit, xin_lit, xb0, xb1, gd_t, nz4, Option.bind_some, gR_emb, gN_emb, gL_emb, ↓reduceIte, if_true, if_false, not_true_eq_false, not_false_eq_true, eq_self, Nat.not_lt_zero, Nat.zero_le, true_or, or_true, false_or, or_false, true_and, and_true, false_and, and_false, c, c2, on]
        · simp (disch := first | assumption | omega) only [l0_7, l0_8, l0_9, l0_10, l0_11, l0_12, l0_13, l0_14, l0_15, l2_0, l2_5, l2_6, l2_7, l2_8, l2_9, l2_12, l2_13, l7_4, l7_5, l7_6, l7_7, l8_0, l8_1, l8_2, l9_1, l9_2, l9_3, l9_4, l4_0_0, l4_0_1, l4_0_2, l4_0_3, l3_0_2, l3_0_3, l3_0_4, l3_0_5, l10_0_0, l1_0_1, l1_0_2, l1_0_3, l1_1_1, l1_1_2, l1_1_3, l1_2_1, l1_2_2, l1_2_3, l5_0_0, l5_0_2, l5_0_3, l5_0_4, l11_0_0, l11_0_5, l11_0_6, l11_0_7, l11_0_8, l11_0_9, l11_0_10, l11_0_11, l11_0_12, l11_0_13, l24_0_0, l24_0_1, l25_0_0, l25_0_1, l12_0_1, l12_0_4, l12_0_5, l12_0_6, l12_0_9, l12_0_10, l12_0_11, l12_0_13, l12_0_14, l12_0_15, l12_0_16, l12_0_17, l12_0_18, l12_0_19, l12_0_23, l12_0_24, l12_0_25, l12_0_27, n_a0, n_a1, n_a2, n_a3, n_a4, n_a5, n_a6, n_a7, n_a8, n_a9, n_a10, n_b0, n_b1, n_b2, n_p0, n_p1, n_p2, n_p3, n_p4, n_s0, n_s1, n_s2, n_s3, n_nm, n20_18, n20_19, n20_20, n20_21, n20_44, n20_45, n20_46, n20_47, n20_48, n20_49, n20_83, n20_84, n20_85, n20_86, n20_87, n20_88, n20_89, n20_90, n20_91, n20_92, n20_93, n20_94, n20_95, n20_96, n20_97, n20_98, n21_2, n21_3, n21_4, n21_5, n21_6, n22_6, n22_7, n22_17, n22_18, n22_19, n22_20, n23_0, n24_0, n25_0, r_a0, w_a0, r_a1, w_a1, r_a2, w_a2, r_a3, w_a3, r_a4, w_a4, r_a5, w_a5, r_a6, w_a6, r_a7, w_a7, r_a8, w_a8, r_a9, w_a9, r_a10, w_a10, r_b0, w_b0, r_b1, w_b1, r_b2, w_b2, r_d, w_d, r_c, w_c, r_e, w_e, r_t, w_t, r_f0, w_f0, r_f1, w_f1, r_f2, w_f2, r_f3, w_f3, r_e0, w_e0, r_e1, w_e1, r_e2, w_e2, r_o7, r_o8, r_o9, r_o10, r_o1, r_o5, r_o6, r_o11, r_o12, r_o21, r_o23, r_p0, r_p1, r_p2, r_s0, r_s1, r_s2, r_s3, i3_add1, i3_add, i3_mul, i3_addl, i3_mull, i3_ladd, i3_lmul, i3_div4, i3_le, i3_lt, i3_eq, i3_lel, i3_lle, i3_ltl, i3_llt, i3_eql, i3_leq, i3_nl, i3_0l, i3_nn, n1_lt, n1_le, xi_i3, xin_i3, xi_lit, xin_lit, xb0, xb1, gd_t, nz4, Option.bind_some, gR_emb, gN_emb, gL_emb, ↓reduceIte, if_true, if_false, not_true_eq_false, not_false_eq_true, eq_self, Nat.not_lt_zero, Nat.zero_le, true_or, or_true, false_or, or_false, true_and, and_true, false_and, and_false, c, c2, on]
    by_cases d2 : d = 2
    · subst d2
      have hO2 : Ok nb nw (up D1 14 11 0) := Ok_up hT (by omega)
      simp (disch := first | assumption | omega) only [l0_7, l0_8, l0_9, l0_10, l0_11, l0_12, l0_13, l0_14, l0_15, l2_0, l2_5, l2_6, l2_7, l2_8, l2_9, l2_12, l2_13, l7_4, l7_5, l7_6, l7_7, l8_0, l8_1, l8_2, l9_1, l9_2, l9_3, l9_4, l4_0_0, l4_0_1, l4_0_2, l4_0_3, l3_0_2, l3_0_3, l3_0_4, l3_0_5, l10_0_0, l1_0_1, l1_0_2, l1_0_3, l1_1_1, l1_1_2, l1_1_3, l1_2_1, l1_2_2, l1_2_3, l5_0_0, l5_0_2, l5_0_3, l5_0_4, l11_0_0, l11_0_5, l11_0_6, l11_0_7, l11_0_8, l11_0_9, l11_0_10, l11_0_11, l11_0_12, l11_0_13, l24_0_0, l24_0_1, l25_0_0, l25_0_1, l12_0_1, l12_0_4, l12_0_5, l12_0_6, l12_0_9, l12_0_10, l12_0_11, l12_0_13, l12_0_14, l12_0_15, l12_0_16, l12_0_17, l12_0_18, l12_0_19, l12_0_23, l12_0_24, l12_0_25, l12_0_27, n_a0, n_a1, n_a2, n_a3, n_a4, n_a5, n_a6, n_a7, n_a8, n_a9, n_a10, n_b0, n_b1, n_b2, n_p0, n_p1, n_p2, n_p3, n_p4, n_s0, n_s1, n_s2, n_s3, n_nm, n20_18, n20_19, n20_20, n20_21, n20_44, n20_45, n20_46, n20_47, n20_48, n20_49, n20_83, n20_84, n20_85, n20_86, n20_87, n20_88, n20_89, n20_90, n20_91, n20_92, n20_93, n20_94, n20_95, n20_96, n20_97, n20_98, n21_2, n21_3, n21_4, n21_5, n21_6, n22_6, n22_7, n22_17, n22_18, n22_19, n22_20, n23_0, n24_0, n25_0, r_a0, w_a0, r_a1, w_a1, r_a2, w_a2, r_a3, w_a3, r_a4, w_a4, r_a5, w_a5, r_a6, w_a6, r_a7, w_a7, r_a8, w_a8, r_a9, w_a9, r_a10, w_a10, r_b0, w_b0, r_b1, w_b1, r_b2, w_b2, r_d, w_d, r_c, w_c, r_e, w_e, r_t, w_t, r_f0, w_f0, r_f1, w_f1, r_f2, w_f2, r_f3, w_f3, r_e0, w_e0, r_e1, w_e1, r_e2, w_e2, r_o7, r_o8, r_o9, r_o10, r_o1, r_o5, r_o6, r_o11, r_o12, r_o21, r_o23, r_p0, r_p1, r_p2, r_s0, r_s1, r_s2, r_s3, i3_add1, i3_add, i3_mul, i3_addl, i3_mull, i3_ladd, i3_lmul, i3_div4, i3_le, i3_lt, i3_eq, i3_lel, i3_lle, i3_ltl, i3_llt, i3_eql, i3_leq, i3_nl, i3_0l, i3_nn, n1_lt, n1_le, xi_i3, xin_i3, xi_lit, xin_lit, xb0, xb1, gd_t, nz4, Option.bind_some, gR_emb, gN_emb, gL_emb, ↓reduceIte, if_true, if_false, not_true_eq_false, not_false_eq_true, eq_self, Nat.not_lt_zero, Nat.zero_le, true_or, or_true, false_or, or_false, true_and, and_true, false_and, and_false, on, e_find h hd hO2 (show 100 < fu by omega), e_note h hd hf (D := findT (up D1 14 11 0) (nb * nw)) (OkE_congr (hE rfl) (fun k => by rw [findT_lo (by omega), up_at, if_neg (by omega)])), decide_true]
      exact key _ (Ok_putA (nt := true) hT)
    · simp (disch := first | assumption | omega) only [l0_7, l0_8, l0_9, l0_10, l0_11, l0_12, l0_13, l0_14, l0_15, l2_0, l2_5, l2_6, l2_7, l2_8, l2_9, l2_12, l2_13, l7_4, l7_5, l7_6, l7_7, l8_0, l8_1, l8_2, l9_1, l9_2, l9_3, l9_4, l4_0_0, l4_0_1, l4_0_2, l4_0_3, l3_0_2, l3_0_3, l3_0_4, l3_0_5, l10_0_0, l1_0_1, l1_0_2, l1_0_3, l1_1_1, l1_1_2, l1_1_3, l1_2_1, l1_2_2, l1_2_3, l5_0_0, l5_0_2, l5_0_3, l5_0_4, l11_0_0, l11_0_5, l11_0_6, l11_0_7, l11_0_8, l11_0_9, l11_0_10, l11_0_11, l11_0_12, l11_0_13, l24_0_0, l24_0_1, l25_0_0, l25_0_1, l12_0_1, l12_0_4, l12_0_5, l12_0_6, l12_0_9, l12_0_10, l12_0_11, l12_0_13, l12_0_14, l12_0_15, l12_0_16, l12_0_17, l12_0_18, l12_0_19, l12_0_23, l12_0_24, l12_0_25, l12_0_27, n_a0, n_a1, n_a2, n_a3, n_a4, n_a5, n_a6, n_a7, n_a8, n_a9, n_a10, n_b0, n_b1, n_b2, n_p0, n_p1, n_p2, n_p3, n_p4, n_s0, n_s1, n_s2, n_s3, n_nm, n20_18, n20_19, n20_20, n20_21, n20_44, n20_45, n20_46, n20_47, n20_48, n20_49, n20_83, n20_84, n20_85, n20_86, n20_87, n20_88, n20_89, n20_90, n20_91, n20_92, n20_93, n20_94, n20_95, n20_96, n20_97, n20_98, n21_2, n21_3, n21_4, n21_5, n21_6, n22_6, n22_7, n22_17, n22_18, n22_19, n22_20, n23_0, n24_0, n25_0, r_a0, w_a0, r_a1, w_a1, r_a2, w_a2, r_a3, w_a3, r_a4, w_a4, r_a5, w_a5, r_a6, w_a6, r_a7, w_a7, r_a8, w_a8, r_a9, w_a9, r_a10, w_a10, r_b0, w_b0, r_b1, w_b1, r_b2, w_b2, r_d, w_d, r_c, w_c, r_e, w_e, r_t, w_t, r_f0, w_f0, r_f1, w_f1, r_f2, w_f2, r_f3, w_f3, r_e0, w_e0, r_e1, w_e1, r_e2, w_e2, r_o7, r_o8, r_o9, r_o10, r_o1, r_o5, r_o6, r_o11, r_o12, r_o21, r_o23, r_p0, r_p1, r_p2, r_s0, r_s1, r_s2, r_s3, i3_add1, i3_add, i3_mul, i3_addl, i3_mull, i3_ladd, i3_lmul, i3_div4, i3_le, i3_lt, i3_eq, i3_lel, i3_lle, i3_ltl, i3_llt, i3_eql, i3_leq, i3_nl, i3_0l, i3_nn, n1_lt, n1_le, xi_i3, xin_i3, xi_lit, xin_lit, xb0, xb1, gd_t, nz4, Option.bind_some, gR_emb, gN_emb, gL_emb, ↓reduceIte, if_true, if_false, not_true_eq_false, not_false_eq_true, eq_self, Nat.not_lt_zero, Nat.zero_le, true_or, or_true, false_or, or_false, true_and, and_true, false_and, and_false, on, d2, decide_false]
      exact key _ (Ok_putA (nt := false) hT)
end
