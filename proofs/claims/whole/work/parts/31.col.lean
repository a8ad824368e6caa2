/-! ===== collect, commit ===== -/
def colR (nt : Bool) (nb nw b : Nat) : Nat → Nat → xT → Int32 × xT
  | 0, _, E => (i3 b, up (up (eraseT E nw b) 14 11 0) 14 3 (eraseT E nw b 14 3 + 1))
  | m + 1, i, E => if E 13 (b * nw + i) = 0 then colR nt nb nw b m (i + 1) E else
    match putT nt E nb nw with
    | (none, E1) => (-2, E1)
    | (some t, E1) => colR nt nb nw b m (i + 1) (copyT E1 (b * nw + i) t)
def collectT (nt : Bool) (D : xT) (nb nw : Nat) : Int32 × xT :=
  match pickT D nb nw with
  | (none, D1) => (-1, D1)
  | (some b, D1) => colR nt nb nw b nw 0 D1
def isBlkB (nb : Nat) (x : Int32) : Bool := ! decide (x < 0) && ! decide (i3 nb ≤ x)
/-- the entries of a part from page at on: count and page when it is full -/
def filR (s : Nat) : Nat → Nat → Nat → xT → Nat × Nat × xT
  | 0, cnt, at', E => (cnt, at', E)
  | k + 1, cnt, at', E => if 4 ≤ cnt then (cnt, at', E) else if keptT E at' then filR s k (cnt + 1) (at' + 1) (up (up E 7 (s * 4 + cnt) (i3 at')) 8 (s * 4 + cnt) (E 9 at')) else filR s k cnt (at' + 1) E
def fillPartT (E : xT) (s part parts at' : Nat) : Nat × xT :=
  let y := filR s (20 - at') 0 at' E
  (y.2.1, fillT y.2.2 s 3 (y.2.2 14 10) (i3 part) (i3 parts) (i3 y.1))
def comR (nt : Bool) (nb nw parts : Nat) : Nat → Nat → Nat → xT → Int32 × xT
  | 0, _, _, E => (i3 parts, up (up (up E 15 5 (E 14 10)) 15 6 (i3 parts)) 14 11 0)
  | m + 1, part, at', E =>
    match putT nt (up E 14 10 (E 14 10 + 1)) nb nw with
    | (none, E1) => (-2, E1)
    | (some s, E1) => comR nt nb nw parts m (part + 1) (fillPartT E1 s part parts at').1 (fillPartT E1 s part parts at').2
def partsN (D : xT) : Nat := keptN D / 4 + 1
def commitT (nt : Bool) (D : xT) (nb nw : Nat) : Int32 × xT :=
  if D 14 1 = 0 then (-1, D) else if i3 (partsN D) ≤ D 15 3 then comR nt nb nw (partsN D) (partsN D) 0 0 D else (-1, D)
section
variable {M : xM} {D : xT} {C : xC} {R : Nat → Int32} {d fu nb nw a : Nat}
theorem e_isBlock (hO : Ok nb nw D) {x : Int32} : F_X0_isBlock fu d x (emb d D M) = some (bz (isBlkB nb x), emb d D M) := by
  obtain ⟨o1, o2, o3, o4, o5, o6, o7⟩ := hO
  unfold F_X0_isBlock isBlkB
  simp (disch := first | assumption | omega) only [l0_7, l0_8, l0_9, l0_10, l0_11, l0_12, l0_13, l0_14, l0_15, l2_0, l2_5, l2_6, l2_7, l2_8, l2_9, l2_12, l2_13, l7_4, l7_5, l7_6, l7_7, l8_0, l8_1, l8_2, l9_1, l9_2, l9_3, l9_4, l4_0_0, l4_0_1, l4_0_2, l4_0_3, l3_0_2, l3_0_3, l3_0_4, l3_0_5, l10_0_0, l1_0_1, l1_0_2, l1_0_3, l1_1_1, l1_1_2, l1_1_3, l1_2_1, l1_2_2, l1_2_3, l5_0_0, l5_0_2, l5_0_3, l5_0_4, l11_0_0, l11_0_5, l11_0_6, l11_0_7, l11_0_8, l11_0_9, l11_0_10, l11_0_11, l11_0_12, l11_0_13, l24_0_0, l24_0_1, l25_0_0, l25_0_1, l12_0_1, l12_0_4, l12_0_5, l12_0_6, l12_0_9, l12_0_10, l12_0_11, l12_0_13, l12_0_14, l12_0_15, l12_0_16, l12_0_17, l12_0_18, l12_0_19, l12_0_23, l12_0_24, l12_0_25, l12_0_27, n_a0, n_a1, n_a2, n_a3, n_a4, n_a5, n_a6, n_a7, n_a8, n_a9, n_a10, n_b0, n_b1, n_b2, n_p0, n_p1, n_p2, n_p3, n_p4, n_s0, n_s1, n_s2, n_s3, n_nm, n20_18, n20_19, n20_20, n20_21, n20_44, n20_45, n20_46, n20_47, n20_48, n20_49, n20_83, n20_84, n20_85, n20_86, n20_87, n20_88, n20_89, n20_90, n20_91, n20_92, n20_93, n20_94, n20_95, n20_96, n20_97, n20_98, n21_2, n21_3, n21_4, n21_5, n21_6, n22_6, n22_7, n22_17, n22_18, n22_19, n22_20, n23_0, n24_0, n25_0, r_a0, w_a0, r_a1, w_a1, r_a2, w_a2, r_a3, w_a3, r_a4, w_a4, r_a5, w_a5, r_a6, w_a6, r_a7, w_a7, r_a8, w_a8, r_a9, w_a9, r_a10, w_a10, r_b0, w_b0, r_b1, w_b1, r_b2, w_b2, r_d, w_d, r_c, w_c, r_e, w_e, r_t, w_t, r_f0, w_f0, r_f1, w_f1, r_f2, w_f2, r_f3, w_f3, r_e0, w_e0, r_e1, w_e1, r_e2, w_e2, r_o7, r_o8, r_o9, r_o10, r_o1, r_o5, r_o6, r_o11, r_o12, r_o21, r_o23, r_p0, r_p1, r_p2, r_s0, r_s1, r_s2, r_s3, i3_add1, i3_add, i3_mul, i3_addl, i3_mull, i3_ladd, i3_lmul, i3_div4, i3_le, i3_lt, i3_eq, i3_lel, i3_lle, i3_ltl, i3_llt, i3_eql, i3_leq, i3_nl, i3_0l, i3_nn, n1_lt, n1_le, xi_i3, xin_i3, xi_lit, xin_lit, xb0, xb1, gd_t, nz4, Option.bind_some, gR_emb, gN_emb, gL_emb, ↓reduceIte, if_true, if_false, not_true_eq_false, not_false_eq_true, eq_self, Nat.not_lt_zero, Nat.zero_le, true_or, or_true, false_or, or_false, true_and, and_true, false_and, and_false, o3]
  by_cases h1 : x < 0
  · simp [h1, bz]
  · by_cases h2 : i3 nb ≤ x
    · simp [h1, h2, bz]
    · obtain ⟨n, hn, rfl⟩ := i3_of (Int32.not_lt.mp h1)
      rw [i3_le (by omega) hn] at h2
      have : ¬ ((6 : Int32) ≤ i3 n) := fun q => by have := (i3_le (a := 6) (by decide) hn).mp q; omega
      have h3 : ¬ (i3 nb ≤ i3 n) := fun q => h2 ((i3_le (by omega) hn).mp q)
      simp only [i3_nl hn, h3, this, if_false]
      simp [bz]
theorem pickB_lt {E : xT} {b : Nat} (hn : nb ≤ 6) (h : pickB E nb = some b) : b < nb := by
  unfold pickB at h
  rcases pickF_in E nb with e | ⟨k, hk, e⟩
  · rw [e] at h; simp [n1_lt] at h
  · have ek : k < 2147483648 := by omega
    simp only [e, i3_nl ek, if_false, xi_i3 ek] at h
    split at h
    · injection h with h; omega
    · cases h
theorem pickT_spec (hO : Okd d nb nw D) : Okd d nb nw (pickT D nb nw).2 ∧ (∀ b, (pickT D nb nw).1 = some b → b < nb) ∧ ∀ j k, (j ≠ 10 ∧ j ≠ 13 ∧ (j ≠ 14 ∨ k ≠ 11 ∧ k ≠ 14 ∧ k ≠ 15)) → (pickT D nb nw).2 j k = D j k := by
  unfold pickT
  by_cases c : D 14 1 = 0
  · rw [if_pos c]; exact ⟨hO, fun b h => (by cases h), fun j k _ => rfl⟩
  · rw [if_neg c]; exact ⟨Okd_survey hO, fun b h => pickB_lt hO.1.1 h, fun j k q => surveyT_lo q⟩
theorem copyT_lo {x y j k : Nat} (h : j < 2 ∨ 8 < j) : copyT D x y j k = D j k := by
  unfold copyT fillT
  rw [if_neg (by omega)]
  simp only [up_at]
  repeat rw [if_neg (by omega)]
theorem copyT_ne {x y j k : Nat} (h : k ≠ y) (h2 : j ≠ 7 ∧ j ≠ 8) : copyT D x y j k = D j k := by
  unfold copyT fillT
  rw [if_neg (by omega)]
  simp only [up_at]
  repeat rw [if_neg (by omega)]
theorem copyT_at {x y j : Nat} (h : 2 ≤ j ∧ j ≤ 6) : copyT D x y j y = D j x := by
  unfold copyT fillT
  rw [if_neg (by omega)]
  simp only [up_at]
  have : j = 2 ∨ j = 3 ∨ j = 4 ∨ j = 5 ∨ j = 6 := by omega
  rcases this with rfl | rfl | rfl | rfl | rfl <;> simp
theorem copyT_e {x y j n : Nat} (h : j = 7 ∨ j = 8) (hn : n < 4) : copyT D x y j (y * 4 + n) = D j (x * 4 + n) := by
  unfold copyT
  rw [if_pos ⟨h, by omega, by omega⟩]
  congr 1; omega
theorem copyT_en {x y j s n : Nat} (h : j = 7 ∨ j = 8) (hn : n < 4) (hs : s ≠ y) : copyT D x y j (s * 4 + n) = D j (s * 4 + n) := by
  unfold copyT fillT
  rw [if_neg (by omega)]
  simp only [up_at]
  repeat rw [if_neg (by omega)]
theorem Ok_copy {x y : Nat} (hO : Ok nb nw D) (hx : x < nb * nw) : Ok nb nw (copyT D x y) := by
  obtain ⟨o1, o2, o3, o4, o5, o6, o7⟩ := hO
  refine ⟨o1, o2, ?_, ?_, ?_, ?_, ?_⟩
  · rw [copyT_lo (by omega)]; exact o3
  · rw [copyT_lo (by omega)]; exact o4
  · rw [copyT_lo (by omega)]; exact o5
  · rw [copyT_lo (by omega)]; exact o6
  · intro s hs
    by_cases c : s = y
    · subst c
      have := o7 x hx
      rw [copyT_at (by omega), copyT_at (by omega), copyT_at (by omega), copyT_at (by omega)]
      refine ⟨this.1, this.2.1, fun a n hn hl => ?_⟩
      rw [copyT_e (Or.inl rfl) hn]
      exact this.2.2 a n hn hl
    · have := o7 s hs
      rw [copyT_ne c (by omega), copyT_ne c (by omega), copyT_ne c (by omega), copyT_ne c (by omega)]
      refine ⟨this.1, this.2.1, fun a n hn hl => ?_⟩
      rw [copyT_en (Or.inl rfl) hn c]
      exact this.2.2 a n hn hl
theorem Okd_copy {x y : Nat} (hO : Okd d nb nw D) (hx : x < nb * nw) : Okd d nb nw (copyT D x y) :=
  ⟨Ok_copy hO.1 hx, fun q => OkE_congr (hO.2 q) (fun k => copyT_lo (by omega))⟩
theorem Ok_clr {lo n : Nat} (hO : Ok nb nw D) : Ok nb nw (clrT D lo n) := by
  induction n with
  | zero => rw [clrT_0]; exact hO
  | succ n ih => rw [← clrT_s]; exact Ok_torn ih 0 (-1) (-1) (-1) (-1) (Or.inl rfl)
theorem eraseT_lo {b j k : Nat} (h : 7 ≤ j) (h2 : j ≠ 15 ∨ k ≠ 3) : eraseT D nw b j k = D j k := by
  unfold eraseT
  rw [up_ne (by omega), clrT_hi _ _ _ _ _ (by omega), up_ne (by omega), up_ne (by omega)]
theorem Ok_erase {b : Nat} (hO : Ok nb nw D) : Ok nb nw (eraseT D nw b) := by
  unfold eraseT
  exact Ok_up (Ok_clr (Ok_up (Ok_up hO (by omega)) (by omega))) (by omega)
theorem Okd_up {j k : Nat} {v : Int32} (hO : Okd d nb nw D) (h : j = 0 ∨ j = 1 ∨ 8 ≤ j ∧ j ≠ 15 ∧ j ≠ 24 ∨ j = 15 ∧ (k = 3 ∨ 5 ≤ k)) : Okd d nb nw (up D j k v) :=
  ⟨Ok_up hO.1 (by omega), fun q => OkE_congr (hO.2 q) (fun k => up_ne (by omega))⟩
theorem colR_ok {nt : Bool} {b : Nat} (hb : b < nb) : ∀ (m i : Nat) (E : xT), i + m = nw → Okd d nb nw E → Okd d nb nw (colR nt nb nw b m i E).2
  | 0, i, E, hi, hO => by
    unfold colR
    exact Okd_up (Okd_up ⟨Ok_erase hO.1, fun q => OkE_congr (hO.2 q) (fun k => eraseT_lo (by omega) (by omega))⟩ (by omega)) (by omega)
  | m + 1, i, E, hi, hO => by
    have hB := blk (nw := nw) hb
    unfold colR
    by_cases c : E 13 (b * nw + i) = 0
    · rw [if_pos c]; exact colR_ok hb m (i + 1) E (by omega) hO
    · rw [if_neg c]
      have hP := putT_ok (nt := nt) hO
      generalize putT nt E nb nw = p at hP ⊢
      obtain ⟨o, E1⟩ := p
      cases o with
      | none => exact hP.1
      | some t => exact colR_ok hb m (i + 1) _ (by omega) (Okd_copy hP.1 (by omega))
theorem collectT_ok {nt : Bool} (hO : Okd d nb nw D) : Okd d nb nw (collectT nt D nb nw).2 := by
  have hP := pickT_spec hO
  unfold collectT
  generalize pickT D nb nw = p at hP ⊢
  obtain ⟨o, E1⟩ := p
  cases o with
  | none => exact hP.1
  | some b => exact colR_ok (hP.2.1 b rfl) nw 0 _ (by omega) hP.1
theorem e_colR (h : Lay M) (hd : d < 5) (hf : 300 < fu) {b : Nat} (hb : b < nb) : ∀ (n m i : Nat) (E : xT), Okd d nb nw E → i + m = nw → m < n → L_X2_collectBlock_28 fu n d (i3 b) (i3 (b * nw + i)) (emb d E M) = some ((colR (decide (d = 2)) nb nw b m i E).1, emb d (colR (decide (d = 2)) nb nw b m i E).2 M)
  | 0, m, i, E, hO, hi, hn => absurd hn (by omega)
  | n + 1, 0, i, E, hO, hi, hn => by
    have o4 := hO.1.2.2.2.1
    have o1 := hO.1.1
    have hT := mul36 hO.1.1 hO.1.2.1
    have hB := blk (nw := nw) hb
    have hS : (b + 1) * nw = b * nw + nw := Nat.succ_mul b nw
    conv => lhs; unfold L_X2_collectBlock_28
    simp (disch := first | assumption | omega) only [l0_7, l0_8, l0_9, l0_10, l0_11, l0_12, l0_13, l0_14, l0_15, l2_0, l2_5, l2_6, l2_7, l2_8, l2_9, l2_12, l2_13, l7_4, l7_5, l7_6, l7_7, l8_0, l8_1, l8_2, l9_1, l9_2, l9_3, l9_4, l4_0_0, l4_0_1, l4_0_2, l4_0_3, l3_0_2, l3_0_3, l3_0_4, l3_0_5, l10_0_0, l1_0_1, l1_0_2, l1_0_3, l1_1_1, l1_1_2, l1_1_3, l1_2_1, l1_2_2, l1_2_3, l5_0_0, l5_0_2, l5_0_3, l5_0_4, l11_0_0, l11_0_5, l11_0_6, l11_0_7, l11_0_8, l11_0_9, l11_0_10, l11_0_11, l11_0_12, l11_0_13, l24_0_0, l24_0_1, l25_0_0, l25_0_1, l12_0_1, l12_0_4, l12_0_5, l12_0_6, l12_0_9, l12_0_10, l12_0_11, l12_0_13, l12_0_14, l12_0_15, l12_0_16, l12_0_17, l12_0_18, l12_0_19, l12_0_23, l12_0_24, l12_0_25, l12_0_27, n_a0, n_a1, n_a2, n_a3, n_a4, n_a5, n_a6, n_a7, n_a8, n_a9, n_a10, n_b0, n_b1, n_b2, n_p0, n_p1, n_p2, n_p3, n_p4, n_s0, n_s1, n_s2, n_s3, n_nm, n20_18, n20_19, n20_20, n20_21, n20_44, n20_45, n20_46, n20_47, n20_48, n20_49, n20_83, n20_84, n20_85, n20_86, n20_87, n20_88, n20_89, n20_90, n20_91, n20_92, n20_93, n20_94, n20_95, n20_96, n20_97, n20_98, n21_2, n21_3, n21_4, n21_5, n21_6, n22_6, n22_7, n22_17, n22_18, n22_19, n22_20, n23_0, n24_0, n25_0, r_a0, w_a0, r_a1, w_a1, r_a2, w_a2, r_a3, w_a3, r_a4, w_a4, r_a5, w_a5, r_a6, w_a6, r_a7, w_a7, r_a8, w_a8, r_a9, w_a9, r_a10, w_a10, r_b0, w_b0, r_b1, w_b1, r_b2, w_b2, r_d, w_d, r_c, w_c, r_e, w_e, r_t, w_t, r_f0, w_f0, r_f1, w_f1, r_f2, w_f2, r_f3, w_f3, r_e0, w_e0, r_e1, w_e1, r_e2, w_e2, r_o7, r_o8, r_o9, r_o10, r_o1, r_o5, r_o6, r_o11, r_o12, r_o21, r_o23, r_p0, r_p1, r_p2, r_s0, r_s1, r_s2, r_s3, i3_add1, i3_add, i3_mul, i3_addl, i3_mull, i3_ladd, i3_lmul, i3_div4, i3_le, i3_lt, i3_eq, i3_lel, i3_lle, i3_ltl, i3_llt, i3_eql, i3_leq, i3_nl, i3_0l, i3_nn, n1_lt, n1_le, xi_i3, xin_i3, xi_lit, xin_lit, xb0, xb1, gd_t, nz4, Option.bind_some, gR_emb, gN_emb, gL_emb, ↓reduceIte, if_true, if_false, not_true_eq_false, not_false_eq_true, eq_self, Nat.not_lt_zero, Nat.zero_le, true_or, or_true, false_or, or_false, true_and, and_true, false_and, and_false, o4]
    rw [if_pos (by omega), e_erase h hd hO.1 (by omega) hb]
    simp (disch := first | assumption | omega) only [l0_7, l0_8, l0_9, l0_10, l0_11, l0_12, l0_13, l0_14, l0_15, l2_0, l2_5, l2_6, l2_7, l2_8, l2_9, l2_12, l2_13, l7_4, l7_5, l7_6, l7_7, l8_0, l8_1, l8_2, l9_1, l9_2, l9_3, l9_4, l4_0_0, l4_0_1, l4_0_2, l4_0_3, l3_0_2, l3_0_3, l3_0_4, l3_0_5, l10_0_0, l1_0_1, l1_0_2, l1_0_3, l1_1_1, l1_1_2, l1_1_3, l1_2_1, l1_2_2, l1_2_3, l5_0_0, l5_0_2, l5_0_3, l5_0_4, l11_0_0, l11_0_5, l11_0_6, l11_0_7, l11_0_8, l11_0_9, l11_0_10, l11_0_11, l11_0_12, l11_0_13, l24_0_0, l24_0_1, l25_0_0, l25_0_1, l12_0_1, l12_0_4, l12_0_5, l12_0_6, l12_0_9, l12_0_10, l12_0_11, l12_0_13, l12_0_14, l12_0_15, l12_0_16, l12_0_17, l12_0_18, l12_0_19, l12_0_23, l12_0_24, l12_0_25, l12_0_27, n_a0, n_a1, n_a2, n_a3, n_a4, n_a5, n_a6, n_a7, n_a8, n_a9, n_a10, n_b0, n_b1, n_b2, n_p0, n_p1, n_p2, n_p3, n_p4, n_s0, n_s1, n_s2, n_s3, n_nm, n20_18, n20_19, n20_20, n20_21, n20_44, n20_45, n20_46, n20_47, n20_48, n20_49, n20_83, n20_84, n20_85, n20_86, n20_87, n20_88, n20_89, n20_90, n20_91, n20_92, n20_93, n20_94, n20_95, n20_96, n20_97, n20_98, n21_2, n21_3, n21_4, n21_5, n21_6, n22_6, n22_7, n22_17, n22_18, n22_19, n22_20, n23_0, n24_0, n25_0, r_a0, w_a0, r_a1, w_a1, r_a2, w_a2, r_a3, w_a3, r_a4, w_a4, r_a5, w_a5, r_a6, w_a6, r_a7, w_a7, r_a8, w_a8, r_a9, w_a9, r_a10, w_a10, r_b0, w_b0, r_b1, w_b1, r_b2, w_b2, r_d, w_d, r_c, w_c, r_e, w_e, r_t, w_t, r_f0, w_f0, r_f1, w_f1, r_f2, w_f2, r_f3, w_f3, r_e0, w_e0, r_e1, w_e1, r_e2, w_e2, r_o7, r_o8, r_o9, r_o10, r_o1, r_o5, r_o6, r_o11, r_o12, r_o21, r_o23, r_p0, r_p1, r_p2, r_s0, r_s1, r_s2, r_s3, i3_add1, i3_add, i3_mul, i3_addl, i3_mull, i3_ladd, i3_lmul, i3_div4, i3_le, i3_lt, i3_eq, i3_lel, i3_lle, i3_ltl, i3_llt, i3_eql, i3_leq, i3_nl, i3_0l, i3_nn, n1_lt, n1_le, xi_i3, xin_i3, xi_lit, xin_lit, xb0, xb1, gd_t, nz4, Option.bind_some, gR_emb, gN_emb, gL_emb, ↓reduceIte, if_true, if_false, not_true_eq_false, not_false_eq_true, eq_self, Nat.not_lt_zero, Nat.zero_le, true_or, or_true, false_or, or_false, true_and, and_true, false_and, and_false, up_at, Nat.reduceEqDiff]
    rfl
  | n + 1, m + 1, i, E, hO, hi, hn => by
    have o4 := hO.1.2.2.2.1
    have o1 := hO.1.1
    have hT := mul36 hO.1.1 hO.1.2.1
    have hB := blk (nw := nw) hb
    have hS : (b + 1) * nw = b * nw + nw := Nat.succ_mul b nw
    conv => lhs; unfold L_X2_collectBlock_28
    conv => rhs; unfold colR
    simp (disch := first | assumption | omega) only [l0_7, l0_8, l0_9, l0_10, l0_11, l0_12, l0_13, l0_14, l0_15, l2_0, l2_5, l2_6, l2_7, l2_8, l2_9, l2_12, l2_13, l7_4, l7_5, l7_6, l7_7, l8_0, l8_1, l8_2, l9_1, l9_2, l9_3, l9_4, l4_0_0, l4_0_1, l4_0_2, l4_0_3, l3_0_2, l3_0_3, l3_0_4, l3_0_5, l10_0_0, l1_0_1, l1_0_2, l1_0_3, l1_1_1, l1_1_2, l1_1_3, l1_2_1, l1_2_2, l1_2_3, l5_0_0, l5_0_2, l5_0_3, l5_0_4, l11_0_0, l11_0_5, l11_0_6, l11_0_7, l11_0_8, l11_0_9, l11_0_10, l11_0_11, l11_0_12, l11_0_13, l24_0_0, l24_0_1, l25_0_0, l25_0_1, l12_0_1, l12_0_4, l12_0_5, l12_0_6, l12_0_9, l12_0_10, l12_0_11, l12_0_13, l12_0_14, l12_0_15, l12_0_16, l12_0_17, l12_0_18, l12_0_19, l12_0_23, l12_0_24, l12_0_25, l12_0_27, n_a0, n_a1, n_a2, n_a3, n_a4, n_a5, n_a6, n_a7, n_a8, n_a9, n_a10, n_b0, n_b1, n_b2, n_p0, n_p1, n_p2, n_p3, n_p4, n_s0, n_s1, n_s2, n_s3, n_nm, n20_18, n20_19, n20_20, n20_21, n20_44, n20_45, n20_46, n20_47, n20_48, n20_49, n20_83, n20_84, n20_85, n20_86, n20_87, n20_88, n20_89, n20_90, n20_91, n20_92, n20_93, n20_94, n20_95, n20_96, n20_97, n20_98, n21_2, n21_3, n21_4, n21_5, n21_6, n22_6, n22_7, n22_17, n22_18, n22_19, n22_20, n23_0, n24_0, n25_0, r_a0, w_a0, r_a1, w_a1, r_a2, w_a2, r_a3, w_a3, r_a4, w_a4, r_a5, w_a5, r_a6, w_a6, r_a7, w_a7, r_a8, w_a8, r_a9, w_a9, r_a10, w_a10, r_b0, w_b0, r_b1, w_b1, r_b2, w_b2, r_d, w_d, r_c, w_c, r_e, w_e, r_t, w_t, r_f0, w_f0, r_f1, w_f1, r_f2, w_f2, r_f3, w_f3, r_e0, w_e0, r_e1, w_e1, r_e2, w_e2, r_o7, r_o8, r_o9, r_o10, r_o1, r_o5, r_o6, r_o11, r_o12, r_o21, r_o23, r_p0, r_p1, r_p2, r_s0, r_s1, r_s2, r_s3, i3_add1, i3_add, i3_mul, i3_addl, i3_mull, i3_ladd, i3_lmul, i3_div4, i3_le, i3_lt, i3_eq, i3_lel, i3_lle, i3_ltl, i3_llt, i3_eql, i3_leq, i3_nl, i3_0l, i3_nn, n1_lt, n1_le, xi_i3, xin_i3, xi_lit, xin_lit, xb0, xb1, gd_t, nz4, Option.bind_some, gR_emb, gN_emb, gL_emb, ↓reduceIte, if_true, if_false, not_true_eq_false, not_false_eq_true, eq_self, Nat.not_lt_zero, Nat.zero_le, true_or, or_true, false_or, or_false, true_and, and_true, false_and, and_false, o4]
    rw [if_neg (by omega)]
    by_cases c : E 13 (b * nw + i) = 0
    · rw [if_pos c, if_pos c]
      exact e_colR h hd hf hb n m (i + 1) E hO (by omega) (by omega)
    · rw [if_neg c, if_neg c, e_put h hd hO hf]
      have hP := putT_ok (nt := decide (d = 2)) hO
      generalize putT (decide (d = 2)) E nb nw = p at hP ⊢
      obtain ⟨o, E1⟩ := p
      cases o with
      | none => simp (disch := first | assumption | omega) only [l0_7, l0_8, l0_9, l0_10, l0_11, l0_12, l0_13, l0_14, l0_15, l2_0, l2_5, l2_6, l2_7, l2_8, l2_9, l2_12, l2_13, l7_4, l7_5, l7_6, l7_7, l8_0, l8_1, l8_2, l9_1, l9_2, l9_3, l9_4, l4_0_0, l4_0_1, l4_0_2, l4_0_3, l3_0_2, l3_0_3, l3_0_4, l3_0_5, l10_0_0, l1_0_1, l1_0_2, l1_0_3, l1_1_1, l1_1_2, l1_1_3, l1_2_1, l1_2_2, l1_2_3, l5_0_0, l5_0_2, l5_0_3, l5_0_4, l11_0_0, l11_0_5, l11_0_6, l11_0_7, l11_0_8, l11_0_9, l11_0_10, l11_0_11, l11_0_12, l11_0_13, l24_0_0, l24_0_1, l25_0_0, l25_0_1, l12_0_1, l12_0_4, l12_0_5, l12_0_6, l12_0_9, l12_0_10, l12_0_11, l12_0_13, l12_0_14, l12_0_15, l12_0_16, l12_0_17, l12_0_18, l12_0_19, l12_0_23, l12_0_24, l12_0_25, l12_0_27, n_a0, n_a1, n_a2, n_a3, n_a4, n_a5, n_a6, n_a7, n_a8, n_a9, n_a10, n_b0, n_b1, n_b2, n_p0, n_p1, n_p2, n_p3, n_p4, n_s0, n_s1, n_s2, n_s3, n_nm, n20_18, n20_19, n20_20, n20_21, n20_44, n20_45, n20_46, n20_47, n20_48, n20_49, n20_83, n20_84, n20_85, n20_86, n20_87, n20_88, n20_89, n20_90, n20_91, n20_92, n20_93, n20_94, n20_95, n20_96, n20_97, n20_98, n21_2, n21_3, n21_4, n21_5, n21_6, n22_6, n22_7, n22_17, n22_18, n22_19, n22_20, n23_0, n24_0, n25_0, r_a0, w_a0, r_a1, w_a1, r_a2, w_a2, r_a3, w_a3, r_a4, w_a4, r_a5, w_a5, r_a6, w_a6, r_a7, w_a7, r_a8, w_a8, r_a9, w_a9, r_a10, w_a10, r_b0, w_b0, r_b1, w_b1, r_b2, w_b2, r_d, w_d, r_c, w_c, r_e, w_e, r_t, w_t, r_f0, w_f0, r_f1, w_f1, r_f2, w_f2, r_f3, w_f3, r_e0, w_e0, r_e1, w_e1, r_e2, w_e2, r_o7, r_o8, r_o9, r_o10, r_o1, r_o5, r_o6, r_o11, r_o12, r_o21, r_o23, r_p0, r_p1, r_p2, r_s0, r_s1, r_s2, r_s3, i3_add1, i3_add, i3_mul, i3_addl, i3_mull, i3_ladd, i3_lmul, i3_div4, i3_le, i3_lt, i3_eq, i3_lel, i3_lle, i3_ltl, i3_llt, i3_eql, i3_leq, i3_nl, i3_0l, i3_nn, n1_lt, n1_le, xi_i3, xin_i3, xi_lit, xin_lit, xb0, xb1, gd_t, nz4, Option.bind_some, gR_emb, gN_emb, gL_emb, ↓reduceIte, if_true, if_false, not_true_eq_false, not_false_eq_true, eq_self, Nat.not_lt_zero, Nat.zero_le, true_or, or_true, false_or, or_false, true_and, and_true, false_and, and_false, on]
      | some t =>
        have ht := hP.2 t rfl
        simp (disch := first | assumption | omega) only [l0_7, l0_8, l0_9, l0_10, l0_11, l0_12, l0_13, l0_14, l0_15, l2_0, l2_5, l2_6, l2_7, l2_8, l2_9, l2_12, l2_13, l7_4, l7_5, l7_6, l7_7, l8_0, l8_1, l8_2, l9_1, l9_2, l9_3, l9_4, l4_0_0, l4_0_1, l4_0_2, l4_0_3, l3_0_2, l3_0_3, l3_0_4, l3_0_5, l10_0_0, l1_0_1, l1_0_2, l1_0_3, l1_1_1, l1_1_2, l1_1_3, l1_2_1, l1_2_2, l1_2_3, l5_0_0, l5_0_2, l5_0_3, l5_0_4, l11_0_0, l11_0_5, l11_0_6, l11_0_7, l11_0_8, l11_0_9, l11_0_10, l11_0_11, l11_0_12, l11_0_13, l24_0_0, l24_0_1, l25_0_0, l25_0_1, l12_0_1, l12_0_4, l12_0_5, l12_0_6, l12_0_9, l12_0_10, l12_0_11, l12_0_13, l12_0_14, l12_0_15, l12_0_16, l12_0_17, l12_0_18, l12_0_19, l12_0_23, l12_0_24, l12_0_25, l12_0_27, n_a0, n_a1, n_a2, n_a3, n_a4, n_a5, n_a6, n_a7, n_a8, n_a9, n_a10, n_b0, n_b1, n_b2, n_p0, n_p1, n_p2, n_p3, n_p4, n_s0, n_s1, n_s2, n_s3, n_nm, n20_18, n20_19, n20_20, n20_21, n20_44, n20_45, n20_46, n20_47, n20_48, n20_49, n20_83, n20_84, n20_85, n20_86, n20_87, n20_88, n20_89, n20_90, n20_91, n20_92, n20_93, n20_94, n20_95, n20_96, n20_97, n20_98, n21_2, n21_3, n21_4, n21_5, n21_6, n22_6, n22_7, n22_17, n22_18, n22_19, n22_20, n23_0, n24_0, n25_0, r_a0, w_a0, r_a1, w_a1, r_a2, w_a2, r_a3, w_a3, r_a4, w_a4, r_a5, w_a5, r_a6, w_a6, r_a7, w_a7, r_a8, w_a8, r_a9, w_a9, r_a10, w_a10, r_b0, w_b0, r_b1, w_b1, r_b2, w_b2, r_d, w_d, r_c, w_c, r_e, w_e, r_t, w_t, r_f0, w_f0, r_f1, w_f1, r_f2, w_f2, r_f3, w_f3, r_e0, w_e0, r_e1, w_e1, r_e2, w_e2, r_o7, r_o8, r_o9, r_o10, r_o1, r_o5, r_o6, r_o11, r_o12, r_o21, r_o23, r_p0, r_p1, r_p2, r_s0, r_s1, r_s2, r_s3, i3_add1, i3_add, i3_mul, i3_addl, i3_mull, i3_ladd, i3_lmul, i3_div4, i3_le, i3_lt, i3_eq, i3_lel, i3_lle, i3_ltl, i3_llt, i3_eql, i3_leq, i3_nl, i3_0l, i3_nn, n1_lt, n1_le, xi_i3, xin_i3, xi_lit, xin_lit, xb0, xb1, gd_t, nz4, Option.bind_some, gR_emb, gN_emb, gL_emb, ↓reduceIte, if_true, if_false, not_true_eq_false, not_false_eq_true, eq_self, Nat.not_lt_zero, Nat.zero_le, true_or, or_true, false_or, or_false, true_and, and_true, false_and, and_false, on, e_copyNode h hd (show 100 < fu by omega) (show b * nw + i < 36 by omega) (show t < 36 by omega)]
        exact e_colR h hd hf hb n m (i + 1) _ (Okd_copy hP.1 (by omega)) (by omega) (by omega)
theorem e_collect (h : Lay M) (hd : d < 5) (hO : Okd d nb nw D) (hf : 300 < fu) : F_X2_collectBlock fu d (emb d D M) = some ((collectT (decide (d = 2)) D nb nw).1, emb d (collectT (decide (d = 2)) D nb nw).2 M) := by
  have hP := pickT_spec hO
  unfold F_X2_collectBlock collectT
  simp (disch := first | assumption | omega) only [l0_7, l0_8, l0_9, l0_10, l0_11, l0_12, l0_13, l0_14, l0_15, l2_0, l2_5, l2_6, l2_7, l2_8, l2_9, l2_12, l2_13, l7_4, l7_5, l7_6, l7_7, l8_0, l8_1, l8_2, l9_1, l9_2, l9_3, l9_4, l4_0_0, l4_0_1, l4_0_2, l4_0_3, l3_0_2, l3_0_3, l3_0_4, l3_0_5, l10_0_0, l1_0_1, l1_0_2, l1_0_3, l1_1_1, l1_1_2, l1_1_3, l1_2_1, l1_2_2, l1_2_3, l5_0_0, l5_0_2, l5_0_3, l5_0_4, l11_0_0, l11_0_5, l11_0_6, l11_0_7, l11_0_8, l11_0_9, l11_0_10, l11_0_11, l11_0_12, l11_0_13, l24_0_0, l24_0_1, l25_0_0, l25_0_1, l12_0_1, l12_0_4, l12_0_5, l12_0_6, l12_0_9, l12_0_10, l12_0_11, l12_0_13, l12_0_14, l12_0_15, l12_0_16, l12_0_17, l12_0_18, l12_0_19, l12_0_23, l12_0_24, l12_0_25, l12_0_27, n_a0, n_a1, n_a2, n_a3, n_a4, n_a5, n_a6, n_a7, n_a8, n_a9, n_a10, n_b0, n_b1, n_b2, n_p0, n_p1, n_p2, n_p3, n_p4, n_s0, n_s1, n_s2, n_s3, n_nm, n20_18, n20_19, n20_20, n20_21, n20_44, n20_45, n20_46, n20_47, n20_48, n20_49, n20_83, n20_84, n20_85, n20_86, n20_87, n20_88, n20_89, n20_90, n20_91, n20_92, n20_93, n20_94, n20_95, n20_96, n20_97, n20_98, n21_2, n21_3, n21_4, n21_5, n21_6, n22_6, n22_7, n22_17, n22_18, n22_19, n22_20, n23_0, n24_0, n25_0, r_a0, w_a0, r_a1, w_a1, r_a2, w_a2, r_a3, w_a3, r_a4, w_a4, r_a5, w_a5, r_a6, w_a6, r_a7, w_a7, r_a8, w_a8, r_a9, w_a9, r_a10, w_a10, r_b0, w_b0, r_b1, w_b1, r_b2, w_b2, r_d, w_d, r_c, w_c, r_e, w_e, r_t, w_t, r_f0, w_f0, r_f1, w_f1, r_f2, w_f2, r_f3, w_f3, r_e0, w_e0, r_e1, w_e1, r_e2, w_e2, r_o7, r_o8, r_o9, r_o10, r_o1, r_o5, r_o6, r_o11, r_o12, r_o21, r_o23, r_p0, r_p1, r_p2, r_s0, r_s1, r_s2, r_s3, i3_add1, i3_add, i3_mul, i3_addl, i3_mull, i3_ladd, i3_lmul, i3_div4, i3_le, i3_lt, i3_eq, i3_lel, i3_lle, i3_ltl, i3_llt, i3_eql, i3_leq, i3_nl, i3_0l, i3_nn, n1_lt, n1_le, xi_i3, xin_i3, xi_lit, xin_lit, xb0, xb1, gd_t, nz4, Option.bind_some, gR_emb, gN_emb, gL_emb, ↓reduceIte, if_true, if_false, not_true_eq_false, not_false_eq_true, eq_self, Nat.not_lt_zero, Nat.zero_le, true_or, or_true, false_or, or_false, true_and, and_true, false_and, and_false, e_picked h hd hO.1 (show 100 < fu by omega)]
  generalize pickT D nb nw = p at hP ⊢
  obtain ⟨o, E1⟩ := p
  have o4 : E1 15 1 = i3 nw := hP.1.1.2.2.2.1
  have o1 := hP.1.1.1
  have o2 := hP.1.1.2.1
  cases o with
  | none =>
    simp (disch := first | assumption | omega) only [l0_7, l0_8, l0_9, l0_10, l0_11, l0_12, l0_13, l0_14, l0_15, l2_0, l2_5, l2_6, l2_7, l2_8, l2_9, l2_12, l2_13, l7_4, l7_5, l7_6, l7_7, l8_0, l8_1, l8_2, l9_1, l9_2, l9_3, l9_4, l4_0_0, l4_0_1, l4_0_2, l4_0_3, l3_0_2, l3_0_3, l3_0_4, l3_0_5, l10_0_0, l1_0_1, l1_0_2, l1_0_3, l1_1_1, l1_1_2, l1_1_3, l1_2_1, l1_2_2, l1_2_3, l5_0_0, l5_0_2, l5_0_3, l5_0_4, l11_0_0, l11_0_5, l11_0_6, l11_0_7, l11_0_8, l11_0_9, l11_0_10, l11_0_11, l11_0_12, l11_0_13, l24_0_0, l24_0_1, l25_0_0, l25_0_1, l12_0_1, l12_0_4, l12_0_5, l12_0_6, l12_0_9, l12_0_10, l12_0_11, l12_0_13, l12_0_14, l12_0_15, l12_0_16, l12_0_17, l12_0_18, l12_0_19, l12_0_23, l12_0_24, l12_0_25, l12_0_27, n_a0, n_a1, n_a2, n_a3, n_a4, n_a5, n_a6, n_a7, n_a8, n_a9, n_a10, n_b0, n_b1, n_b2, n_p0, n_p1, n_p2, n_p3, n_p4, n_s0, n_s1, n_s2, n_s3, n_nm, n20_18, n20_19, n20_20, n20_21, n20_44, n20_45, n20_46, n20_47, n20_48, n20_49, n20_83, n20_84, n20_85, n20_86, n20_87, n20_88, n20_89, n20_90, n20_91, n20_92, n20_93, n20_94, n20_95, n20_96, n20_97, n20_98, n21_2, n21_3, n21_4, n21_5, n21_6, n22_6, n22_7, n22_17, n22_18, n22_19, n22_20, n23_0, n24_0, n25_0, r_a0, w_a0, r_a1, w_a1, r_a2, w_a2, r_a3, w_a3, r_a4, w_a4, r_a5, w_a5, r_a6, w_a6, r_a7, w_a7, r_a8, w_a8, r_a9, w_a9, r_a10, w_a10, r_b0, w_b0, r_b1, w_b1, r_b2, w_b2, r_d, w_d, r_c, w_c, r_e, w_e, r_t, w_t, r_f0, w_f0, r_f1, w_f1, r_f2, w_f2, r_f3, w_f3, r_e0, w_e0, r_e1, w_e1, r_e2, w_e2, r_o7, r_o8, r_o9, r_o10, r_o1, r_o5, r_o6, r_o11, r_o12, r_o21, r_o23, r_p0, r_p1, r_p2, r_s0, r_s1, r_s2, r_s3, i3_add1, i3_add, i3_mul, i3_addl, i3_mull, i3_ladd, i3_lmul, i3_div4, i3_le, i3_lt, i3_eq, i3_lel, i3_lle, i3_ltl, i3_llt, i3_eql, i3_leq, i3_nl, i3_0l, i3_nn, n1_lt, n1_le, xi_i3, xin_i3, xi_lit, xin_lit, xb0, xb1, gd_t, nz4, Option.bind_some, gR_emb, gN_emb, gL_emb, ↓reduceIte, if_true, if_false, not_true_eq_false, not_false_eq_true, eq_self, Nat.not_lt_zero, Nat.zero_le, true_or, or_true, false_or, or_false, true_and, and_true, false_and, and_false, e_isBlock hP.1.1, on]
    have : isBlkB nb (-1) = false := by unfold isBlkB; simp [n1_lt]
    simp (disch := first | assumption | omega) only [l0_7, l0_8, l0_9, l0_10, l0_11, l0_12, l0_13, l0_14, l0_15, l2_0, l2_5, l2_6, l2_7, l2_8, l2_9, l2_12, l2_13, l7_4, l7_5, l7_6, l7_7, l8_0, l8_1, l8_2, l9_1, l9_2, l9_3, l9_4, l4_0_0, l4_0_1, l4_0_2, l4_0_3, l3_0_2, l3_0_3, l3_0_4, l3_0_5, l10_0_0, l1_0_1, l1_0_2, l1_0_3, l1_1_1, l1_1_2, l1_1_3, l1_2_1, l1_2_2, l1_2_3, l5_0_0, l5_0_2, l5_0_3, l5_0_4, l11_0_0, l11_0_5, l11_0_6, l11_0_7, l11_0_8, l11_0_9, l11_0_10, l11_0_11, l11_0_12, l11_0_13, l24_0_0, l24_0_1, l25_0_0, l25_0_1, l12_0_1, l12_0_4, l12_0_5, l12_0_6, l12_0_9, l12_0_10, l12_0_11, l12_0_13, l12_0_14, l12_0_15, l12_0_16, l12_0_17, l12_0_18, l12_0_19, l12_0_23, l12_0_24, l12_0_25, l12_0_27, n_a0, n_a1, n_a2, n_a3, n_a4, n_a5, n_a6, n_a7, n_a8, n_a9, n_a10, n_b0, n_b1, n_b2, n_p0, n_p1, n_p2, n_p3, n_p4, n_s0, n_s1, n_s2, n_s3, n_nm, n20_18, n20_19, n20_20, n20_21, n20_44, n20_45, n20_46, n20_47, n20_48, n20_49, n20_83, n20_84, n20_85, n20_86, n20_87, n20_88, n20_89, n20_90, n20_91, n20_92, n20_93, n20_94, n20_95, n20_96, n20_97, n20_98, n21_2, n21_3, n21_4, n21_5, n21_6, n22_6, n22_7, n22_17, n22_18, n22_19, n22_20, n23_0, n24_0, n25_0, r_a0, w_a0, r_a1, w_a1, r_a2, w_a2, r_a3, w_a3, r_a4, w_a4, r_a5, w_a5, r_a6, w_a6, r_a7, w_a7, r_a8, w_a8, r_a9, w_a9, r_a10, w_a10, r_b0, w_b0, r_b1, w_b1, r_b2, w_b2, r_d, w_d, r_c, w_c, r_e, w_e, r_t, w_t, r_f0, w_f0, r_f1, w_f1, r_f2, w_f2, r_f3, w_f3, r_e0, w_e0, r_e1, w_e1, r_e2, w_e2, r_o7, r_o8, r_o9, r_o10, r_o1, r_o5, r_o6, r_o11, r_o12, r_o21, r_o23, r_p0, r_p1, r_p2, r_s0, r_s1, r_s2, r_s3, i3_add1, i3_add, i3_mul, i3_addl, i3_mull, i3_ladd, i3_lmul, i3_div4, i3_le, i3_lt, i3_eq, i3_lel, i3_lle, i3_ltl, i3_llt, i3_eql, i3_leq, i3_nl, i3_0l, i3_nn, n1_lt, n1_le, xi_i3, xin_i3, xi_lit, xin_lit, xb0, xb1, gd_t, nz4, Option.bind_some, gR_emb, gN_emb, gL_emb, ↓reduceIte, if_true, if_false, not_true_eq_false, not_false_eq_true, eq_self, Nat.not_lt_zero, Nat.zero_le, true_or, or_true, false_or, or_false, true_and, and_true, false_and, and_false, this, bz_f]
  | some b =>
    have hb := hP.2.1 b rfl
    simp (disch := first | assumption | omega) only [l0_7, l0_8, l0_9, l0_10, l0_11, l0_12, l0_13, l0_14, l0_15, l2_0, l2_5, l2_6, l2_7, l2_8, l2_9, l2_12, l2_13, l7_4, l7_5, l7_6, l7_7, l8_0, l8_1, l8_2, l9_1, l9_2, l9_3, l9_4, l4_0_0, l4_0_1, l4_0_2, l4_0_3, l3_0_2, l3_0_3, l3_0_4, l3_0_5, l10_0_0, l1_0_1, l1_0_2, l1_0_3, l1_1_1, l1_1_2, l1_1_3, l1_2_1, l1_2_2, l1_2_3, l5_0_0, l5_0_2, l5_0_3, l5_0_4, l11_0_0, l11_0_5, l11_0_6, l11_0_7, l11_0_8, l11_0_9, l11_0_10, l11_0_11, l11_0_12, l11_0_13, l24_0_0, l24_0_1, l25_0_0, l25_0_1, l12_0_1, l12_0_4, l12_0_5, l12_0_6, l12_0_9, l12_0_10, l12_0_11, l12_0_13, l12_0_14, l12_0_15, l12_0_16, l12_0_17, l12_0_18, l12_0_19, l12_0_23, l12_0_24, l12_0_25, l12_0_27, n_a0, n_a1, n_a2, n_a3, n_a4, n_a5, n_a6, n_a7, n_a8, n_a9, n_a10, n_b0, n_b1, n_b2, n_p0, n_p1, n_p2, n_p3, n_p4, n_s0, n_s1, n_s2, n_s3, n_nm, n20_18, n20_19, n20_20, n20_21, n20_44, n20_45, n20_46, n20_47, n20_48, n20_49, n20_83, n20_84, n20_85, n20_86, n20_87, n20_88, n20_89, n20_90, n20_91, n20_92, n20_93, n20_94, n20_95, n20_96, n20_97, n20_98, n21_2, n21_3, n21_4, n21_5, n21_6, n22_6, n22_7, n22_17, n22_18, n22_19, n22_20, n23_0, n24_0, n25_0, r_a0, w_a0, r_a1, w_a1, r_a2, w_a2, r_a3, w_a3, r_a4, w_a4, r_a5, w_a5, r_a6, w_a6, r_a7, w_a7, r_a8, w_a8, r_a9, w_a9, r_a10, w_a10, r_b0, w_b0, r_b1, w_b1, r_b2, w_b2, r_d, w_d, r_c, w_c, r_e, w_e, r_t, w_t, r_f0, w_f0, r_f1, w_f1, r_f2, w_f2, r_f3, w_f3, r_e0, w_e0, r_e1, w_e1, r_e2, w_e2, r_o7, r_o8, r_o9, r_o10, r_o1, r_o5, r_o6, r_o11, r_o12, r_o21, r_o23, r_p0, r_p1, r_p2, r_s0, r_s1, r_s2, r_s3, i3_add1, i3_add, i3_mul, i3_addl, i3_mull, i3_ladd, i3_lmul, i3_div4, i3_le, i3_lt, i3_eq, i3_lel, i3_lle, i3_ltl, i3_llt, i3_eql, i3_leq, i3_nl, i3_0l, i3_nn, n1_lt, n1_le, xi_i3, xin_i3, xi_lit, xin_lit, xb0, xb1, gd_t, nz4, Option.bind_some, gR_emb, gN_emb, gL_emb, ↓reduceIte, if_true, if_false, not_true_eq_false, not_false_eq_true, eq_self, Nat.not_lt_zero, Nat.zero_le, true_or, or_true, false_or, or_false, true_and, and_true, false_and, and_false, e_isBlock hP.1.1, on, o4]
    have : isBlkB nb (i3 b) = true := by
      unfold isBlkB
      have q1 : b < 2147483648 := by omega
      have q2 : ¬ (i3 nb ≤ i3 b) := fun q => by have := (i3_le (by omega) q1).mp q; omega
      simp only [i3_nl q1, q2, decide_false, Bool.not_false, Bool.and_true]
    simp (disch := first | assumption | omega) only [l0_7, l0_8, l0_9, l0_10, l0_11, l0_12, l0_13, l0_14, l0_15, l2_0, l2_5, l2_6, l2_7, l2_8, l2_9, l2_12, l2_13, l7_4, l7_5, l7_6, l7_7, l8_0, l8_1, l8_2, l9_1, l9_2, l9_3, l9_4, l4_0_0, l4_0_1, l4_0_2, l4_0_3, l3_0_2, l3_0_3, l3_0_4, l3_0_5, l10_0_0, l1_0_1, l1_0_2, l1_0_3, l1_1_1, l1_1_2, l1_1_3, l1_2_1, l1_2_2, l1_2_3, l5_0_0, l5_0_2, l5_0_3, l5_0_4, l11_0_0, l11_0_5, l11_0_6, l11_0_7, l11_0_8, l11_0_9, l11_0_10, l11_0_11, l11_0_12, l11_0_13, l24_0_0, l24_0_1, l25_0_0, l25_0_1, l12_0_1, l12_0_4, l12_0_5, l12_0_6, l12_0_9, l12_0_10, l12_0_11, l12_0_13, l12_0_14, l12_0_15, l12_0_16, l12_0_17, l12_0_18, l12_0_19, l12_0_23, l12_0_24, l12_0_25, l12_0_27, n_a0, n_a1, n_a2, n_a3, n_a4, n_a5, n_a6, n_a7, n_a8, n_a9, n_a10, n_b0, n_b1, n_b2, n_p0, n_p1, n_p2, n_p3, n_p4, n_s0, n_s1, n_s2, n_s3, n_nm, n20_18, n20_19, n20_20, n20_21, n20_44, n20_45, n20_46, n20_47, n20_48, n20_49, n20_83, n20_84, n20_85, n20_86, n20_87, n20_88, n20_89, n20_90, n20_91, n20_92, n20_93, n20_94, n20_95, n20_96, n20_97, n20_98, n21_2, n21_3, n21_4, n21_5, n21_6, n22_6, n22_7, n22_17, n22_18, n22_19, n22_20, n23_0, n24_0, n25_0, r_a0, w_a0, r_a1, w_a1, r_a2, w_a2, r_a3, w_a3, r_a4, w_a4, r_a5, w_a5, r_a6, w_a6, r_a7, w_a7, r_a8, w_a8, r_a9, w_a9, r_a10, w_a10, r_b0, w_b0, r_b1, w_b1, r_b2, w_b2, r_d, w_d, r_c, w_c, r_e, w_e, r_t, w_t, r_f0, w_f0, r_f1, w_f1, r_f2, w_f2, r_f3, w_f3, r_e0, w_e0, r_e1, w_e1, r_e2, w_e2, r_o7, r_o8, r_o9, r_o10, r_o1, r_o5, r_o6, r_o11, r_o12, r_o21, r_o23, r_p0, r_p1, r_p2, r_s0, r_s1, r_s2, r_s3, i3_add1, i3_add, i3_mul, i3_addl, i3_mull, i3_ladd, i3_lmul, i3_div4, i3_le, i3_lt, i3_eq, i3_lel, i3_lle, i3_ltl, i3_llt, i3_eql, i3_leq, i3_nl, i3_0l, i3_nn, n1_lt, n1_le, xi_i3, xin_i3, xi_lit, xin_lit, xb0, xb1, gd_t, nz4, Option.bind_some, gR_emb, gN_emb, gL_emb, ↓reduceIte, if_true, if_false, not_true_eq_false, not_false_eq_true, eq_self, Nat.not_lt_zero, Nat.zero_le, true_or, or_true, false_or, or_false, true_and, and_true, false_and, and_false, this, bz_t, ne10]
    exact e_colR h hd hf hb fu nw 0 E1 hP.1 (by omega) (by omega)
end
