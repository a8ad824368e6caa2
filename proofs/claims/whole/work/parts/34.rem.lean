/-! ===== remove, open, close, cut, mount ===== -/
/-- the pages that are mapped, as bits -/
def bitsN (D : xT) (f : Nat) : Nat := (if D 9 (f * 4 + 0) = 0 then 0 else 1) + (if D 9 (f * 4 + 1) = 0 then 0 else 2) + (if D 9 (f * 4 + 2) = 0 then 0 else 4) + (if D 9 (f * 4 + 3) = 0 then 0 else 8)
def mapN (D : xT) (f : Nat) : Nat := cnt (fun p => ! decide (D 9 (f * 4 + p) = 0)) 4
def unmapT (D : xT) (f : Nat) : xT := fun j k => if j = 9 ∧ f * 4 ≤ k ∧ k < f * 4 + 4 then 0 else if j = 14 ∧ k = 11 then 0 else D j k
def remB (C : xC) (nt : Bool) (f : Nat) (E : xT) : Int32 × xT :=
  if i3 (1 + ((keptN E - mapN E f) / 4 + 1) + C 0 2) ≤ E 15 3 then
    (let q := putNewT nt E (C 0 0) (C 0 1) 2 (i3 f) (-1) (-1)
     if q.1 then (if q.2 11 f = 0 then (unmapT q.2 f 14 10, unmapT q.2 f) else (q.2 14 10, up q.2 12 f 1)) else (-2, q.2))
  else (-1, E)
def removeT (C : xC) (R : Nat → Int32) (a : Nat) (nt : Bool) (D : xT) (x : Int32) : Int32 × xT :=
  if ! decide (D 14 1 = 0) && (isFileB C x && (decide (D 12 (xi x) = 0) && ! decide (bitsN D (xi x) = 0))) then
    (if (firstT2 C R a nt D).1 then (-2, (firstT2 C R a nt D).2) else remB C nt (xi x) (firstT2 C R a nt D).2)
  else (-1, D)
def openT (C : xC) (D : xT) (x : Int32) : Bool × xT :=
  if ! decide (D 14 1 = 0) && (isFileB C x && decide (D 11 (xi x) = 0)) then (true, up D 11 (xi x) 1) else (false, D)
def closeT (C : xC) (D : xT) (x : Int32) : Bool × xT :=
  if ! decide (D 14 1 = 0) && (isFileB C x && ! decide (D 11 (xi x) = 0)) then
    (true, if D 12 (xi x) = 0 then up D 11 (xi x) 0 else unmapT (up (up D 11 (xi x) 0) 12 (xi x) 0) (xi x)) else (false, D)
def cutT (D : xT) (x : Int32) : Bool × xT := if D 14 1 = 0 then (false, D) else if x < 1 then (false, D) else if x ≤ 20 then (true, up D 14 2 x) else (false, D)
def mountT (D : xT) (nb nw : Nat) : xT :=
  let D1 := up (up (cpT (forgetT (findT D (nb * nw))) 16 9 0 0 20) 14 1 1) 14 2 0
  let D2 := up D1 14 10 (greatT D1 (nb * nw))
  surveyT (up D2 15 4 (on (begunT D2 nb))) nb nw
section
variable {M : xM} {D : xT} {C : xC} {R : Nat → Int32} {d fu nb nw a : Nat}
theorem or_1 : (0 : Int32) ||| 1 <<< (i3 0 &&& 31) = i3 1 := by decide
theorem or_b {b : Nat} (hb : b < 2) : i3 b ||| 1 <<< (i3 1 &&& 31) = i3 (b + 2) := by
  match b, hb with
  | 0, _ => decide
  | 1, _ => decide
theorem or_c {b : Nat} (hb : b < 4) : i3 b ||| 1 <<< (i3 2 &&& 31) = i3 (b + 4) := by
  match b, hb with
  | 0, _ => decide
  | 1, _ => decide
  | 2, _ => decide
  | 3, _ => decide
theorem or_d {b : Nat} (hb : b < 8) : i3 b ||| 1 <<< (i3 3 &&& 31) = i3 (b + 8) := by
  match b, hb with
  | 0, _ => decide
  | 1, _ => decide
  | 2, _ => decide
  | 3, _ => decide
  | 4, _ => decide
  | 5, _ => decide
  | 6, _ => decide
  | 7, _ => decide
theorem bitsN_lt (D : xT) (f : Nat) : bitsN D f < 16 := by unfold bitsN; (repeat' split) <;> omega
theorem e_bitStep (h : Lay M) (hd : d < 5) {f n i b : Nat} (hf : f < 5) (hi : i < 4) {x : Int32} (hx : x ||| 1 <<< (i3 i &&& 31) = i3 b) : L_X2_mappedBits_4 fu (n + 1) d (i3 f) x (i3 i) (emb d D M) = L_X2_mappedBits_4 fu n d (i3 f) (if D 9 (f * 4 + i) = 0 then x else i3 b) (i3 (i + 1)) (emb d D M) := by
  conv => lhs; unfold L_X2_mappedBits_4
  simp (disch := first | assumption | omega) only [l0_7, l0_8, l0_9, l0_10, l0_11, l0_12, l0_13, l0_14, l0_15, l2_0, l2_5, l2_6, l2_7, l2_8, l2_9, l2_12, l2_13, l7_4, l7_5, l7_6, l7_7, l8_0, l8_1, l8_2, l9_1, l9_2, l9_3, l9_4, l4_0_0, l4_0_1, l4_0_2, l4_0_3, l3_0_2, l3_0_3, l3_0_4, l3_0_5, l10_0_0, l1_0_1, l1_0_2, l1_0_3, l1_1_1, l1_1_2, l1_1_3, l1_2_1, l1_2_2, l1_2_3, l5_0_0, l5_0_2, l5_0_3, l5_0_4, l11_0_0, l11_0_5, l11_0_6, l11_0_7, l11_0_8, l11_0_9, l11_0_10, l11_0_11, l11_0_12, l11_0_13, l24_0_0, l24_0_1, l25_0_0, l25_0_1, l12_0_1, l12_0_4, l12_0_5, l12_0_6, l12_0_9, l12_0_10, l12_0_11, l12_0_13, l12_0_14, l12_0_15, l12_0_16, l12_0_17, l12_0_18, l12_0_19, l12_0_23, l12_0_24, l12_0_25, l12_0_27, n_a0, n_a1, n_a2, n_a3, n_a4, n_a5, n_a6, n_a7, n_a8, n_a9, n_a10, n_b0, n_b1, n_b2, n_p0, n_p1, n_p2, n_p3, n_p4, n_s0, n_s1, n_s2, n_s3, n_nm, n20_18, n20_19, n20_20, n20_21, n20_44, n20_45, n20_46, n20_47, n20_48, n20_49, n20_83, n20_84, n20_85, n20_86, n20_87, n20_88, n20_89, n20_90, n20_91, n20_92, n20_93, n20_94, n20_95, n20_96, n20_97, n20_98, n21_2, n21_3, n21_4, n21_5, n21_6, n22_6, n22_7, n22_17, n22_18, n22_19, n22_20, n23_0, n24_0, n25_0, r_a0, w_a0, r_a1, w_a1, r_a2, w_a2, r_a3, w_a3, r_a4, w_a4, r_a5, w_a5, r_a6, w_a6, r_a7, w_a7, r_a8, w_a8, r_a9, w_a9, r_a10, w_a10, r_b0, w_b0, r_b1, w_b1, r_b2, w_b2, r_d, w_d, r_c, w_c, r_e, w_e, r_t, w_t, r_f0, w_f0, r_f1, w_f1, r_f2, w_f2, r_f3, w_f3, r_e0, w_e0, r_e1, w_e1, r_e2, w_e2, r_o7, r_o8, r_o9, r_o10, r_o1, r_o5, r_o6, r_o11, r_o12, r_o21, r_o23, r_p0, r_p1, r_p2, r_s0, r_s1, r_s2, r_s3, i3_add1, i3_add, i3_mul, i3_addl, i3_mull, i3_ladd, i3_lmul, i3_div4, i3_le, i3_lt, i3_eq, i3_lel, i3_lle, i3_ltl, i3_llt, i3_eql, i3_leq, i3_nl, i3_0l, i3_nn, n1_lt, n1_le, xi_i3, xin_i3, xi_lit, xin_lit, xb0, xb1, gd_t, nz4, Option.bind_some, gR_emb, gN_emb, gL_emb, ↓reduceIte, if_true, if_false, not_true_eq_false, not_false_eq_true, eq_self, Nat.not_lt_zero, Nat.zero_le, true_or, or_true, false_or, or_false, true_and, and_true, false_and, and_false]
  rw [if_neg (by omega)]
  by_cases c : D 9 (f * 4 + i) = 0
  · simp only [if_pos c]
  · simp only [if_neg c, hx]
theorem e_mappedBits (h : Lay M) (hd : d < 5) (hf : 100 < fu) {f : Nat} (hf5 : f < 5) : F_X2_mappedBits fu d (i3 f) (emb d D M) = some (i3 (bitsN D f), emb d D M) := by
  obtain ⟨fu', rfl⟩ : ∃ n, fu = n + 5 := ⟨fu - 5, by omega⟩
  unfold F_X2_mappedBits
  rw [show (L_X2_mappedBits_4 (fu' + 5) (fu' + 5) d (i3 f) 0 0 (emb d D M)) = L_X2_mappedBits_4 (fu' + 5) (fu' + 4 + 1) d (i3 f) 0 (i3 0) (emb d D M) from rfl, e_bitStep h hd hf5 (by omega) or_1]
  generalize q0 : (if D 9 (f * 4 + 0) = 0 then 0 else 1) = b0
  have r0 : (if D 9 (f * 4 + 0) = 0 then (0 : Int32) else i3 1) = i3 b0 := by rw [← q0]; split <;> rfl
  have l0 : b0 < 2 := by rw [← q0]; split <;> omega
  rw [r0, show fu' + 4 = fu' + 3 + 1 from rfl, e_bitStep h hd hf5 (by omega) (or_b l0)]
  generalize q1 : (if D 9 (f * 4 + 1) = 0 then 0 else 2) = b1
  have r1 : (if D 9 (f * 4 + (0 + 1)) = 0 then i3 b0 else i3 (b0 + 2)) = i3 (b0 + b1) := by rw [← q1]; split <;> rfl
  have l1 : b0 + b1 < 4 := by rw [← q1]; split <;> omega
  rw [r1, show fu' + 3 = fu' + 2 + 1 from rfl, e_bitStep h hd hf5 (by omega) (or_c l1)]
  generalize q2 : (if D 9 (f * 4 + 2) = 0 then 0 else 4) = b2
  have r2 : (if D 9 (f * 4 + (0 + 1 + 1)) = 0 then i3 (b0 + b1) else i3 (b0 + b1 + 4)) = i3 (b0 + b1 + b2) := by rw [← q2]; split <;> rfl
  have l2 : b0 + b1 + b2 < 8 := by rw [← q2]; split <;> omega
  rw [r2, show fu' + 2 = fu' + 1 + 1 from rfl, e_bitStep h hd hf5 (by omega) (or_d l2)]
  generalize q3 : (if D 9 (f * 4 + 3) = 0 then 0 else 8) = b3
  have r3 : (if D 9 (f * 4 + (0 + 1 + 1 + 1)) = 0 then i3 (b0 + b1 + b2) else i3 (b0 + b1 + b2 + 8)) = i3 (b0 + b1 + b2 + b3) := by rw [← q3]; split <;> rfl
  have e1 : bitsN D f = b0 + b1 + b2 + b3 := by unfold bitsN; rw [q0, q1, q2, q3]
  rw [r3, e1]
  conv => lhs; unfold L_X2_mappedBits_4
  simp (disch := first | assumption | omega) only [l0_7, l0_8, l0_9, l0_10, l0_11, l0_12, l0_13, l0_14, l0_15, l2_0, l2_5, l2_6, l2_7, l2_8, l2_9, l2_12, l2_13, l7_4, l7_5, l7_6, l7_7, l8_0, l8_1, l8_2, l9_1, l9_2, l9_3, l9_4, l4_0_0, l4_0_1, l4_0_2, l4_0_3, l3_0_2, l3_0_3, l3_0_4, l3_0_5, l10_0_0, l1_0_1, l1_0_2, l1_0_3, l1_1_1, l1_1_2, l1_1_3, l1_2_1, l1_2_2, l1_2_3, l5_0_0, l5_0_2, l5_0_3, l5_0_4, l11_0_0, l11_0_5, l11_0_6, l11_0_7, l11_0_8, l11_0_9, l11_0_10, l11_0_11, l11_0_12, l11_0_13, l24_0_0, l24_0_1, l25_0_0, l25_0_1, l12_0_1, l12_0_4, l12_0_5, l12_0_6, l12_0_9, l12_0_10, l12_0_11, l12_0_13, l12_0_14, l12_0_15, l12_0_16, l12_0_17, l12_0_18, l12_0_19, l12_0_23, l12_0_24, l12_0_25, l12_0_27, n_a0, n_a1, n_a2, n_a3, n_a4, n_a5, n_a6, n_a7, n_a8, n_a9, n_a10, n_b0, n_b1, n_b2, n_p0, n_p1, n_p2, n_p3, n_p4, n_s0, n_s1, n_s2, n_s3, n_nm, n20_18, n20_19, n20_20, n20_21, n20_44, n20_45, n20_46, n20_47, n20_48, n20_49, n20_83, n20_84, n20_85, n20_86, n20_87, n20_88, n20_89, n20_90, n20_91, n20_92, n20_93, n20_94, n20_95, n20_96, n20_97, n20_98, n21_2, n21_3, n21_4, n21_5, n21_6, n22_6, n22_7, n22_17, n22_18, n22_19, n22_20, n23_0, n24_0, n25_0, r_a0, w_a0, r_a1, w_a1, r_a2, w_a2, r_a3, w_a3, r_a4, w_a4, r_a5, w_a5, r_a6, w_a6, r_a7, w_a7, r_a8, w_a8, r_a9, w_a9, r_a10, w_a10, r_b0, w_b0, r_b1, w_b1, r_b2, w_b2, r_d, w_d, r_c, w_c, r_e, w_e, r_t, w_t, r_f0, w_f0, r_f1, w_f1, r_f2, w_f2, r_f3, w_f3, r_e0, w_e0, r_e1, w_e1, r_e2, w_e2, r_o7, r_o8, r_o9, r_o10, r_o1, r_o5, r_o6, r_o11, r_o12, r_o21, r_o23, r_p0, r_p1, r_p2, r_s0, r_s1, r_s2, r_s3, i3_add1, i3_add, i3_mul, i3_addl, i3_mull, i3_ladd, i3_lmul, i3_div4, i3_le, i3_lt, i3_eq, i3_lel, i3_lle, i3_ltl, i3_llt, i3_eql, i3_leq, i3_nl, i3_0l, i3_nn, n1_lt, n1_le, xi_i3, xin_i3, xi_lit, xin_lit, xb0, xb1, gd_t, nz4, Option.bind_some, gR_emb, gN_emb, gL_emb, ↓reduceIte, if_true, if_false, not_true_eq_false, not_false_eq_true, eq_self, Nat.not_lt_zero, Nat.zero_le, true_or, or_true, false_or, or_false, true_and, and_true, false_and, and_false, Nat.le_refl, Nat.reduceAdd, Nat.reduceLeDiff]
theorem e_bitCount : ∀ b, b < 16 → ∀ M : xM, F_J6_bitCount_0f7a4 fu (i3 b) M = some (i3 (b % 2 + b / 2 % 2 + b / 4 % 2 + b / 8 % 2), M) := by
  intro b hb M
  have h2 : (F_J6_bitCount_0f7a4 0 (i3 b) M).map (fun p => p.1) = some (i3 (b % 2 + b / 2 % 2 + b / 4 % 2 + b / 8 % 2)) := by
    match b, hb with
    | 0, _ => rfl
    | 1, _ => rfl
    | 2, _ => rfl
    | 3, _ => rfl
    | 4, _ => rfl
    | 5, _ => rfl
    | 6, _ => rfl
    | 7, _ => rfl
    | 8, _ => rfl
    | 9, _ => rfl
    | 10, _ => rfl
    | 11, _ => rfl
    | 12, _ => rfl
    | 13, _ => rfl
    | 14, _ => rfl
    | 15, _ => rfl
    | n + 16, hb => exact absurd hb (by omega)
  have h3 : F_J6_bitCount_0f7a4 fu (i3 b) M = (F_J6_bitCount_0f7a4 0 (i3 b) M).map (fun p => (p.1, M)) := rfl
  rw [h3]
  have h4 : (F_J6_bitCount_0f7a4 0 (i3 b) M).map (fun p => (p.1, M)) = ((F_J6_bitCount_0f7a4 0 (i3 b) M).map (fun p => p.1)).map (fun q => (q, M)) := by rw [Option.map_map]; rfl
  rw [h4, h2]; rfl
theorem mapN_bits (D : xT) (f : Nat) : bitsN D f % 2 + bitsN D f / 2 % 2 + bitsN D f / 4 % 2 + bitsN D f / 8 % 2 = mapN D f := by
  unfold bitsN mapN cnt cnt cnt cnt cnt
  by_cases c0 : D 9 (f * 4) = 0 <;> by_cases c1 : D 9 (f * 4 + 1) = 0 <;> by_cases c2 : D 9 (f * 4 + 2) = 0 <;> by_cases c3 : D 9 (f * 4 + 3) = 0 <;> simp [c0, c1, c2, c3]
theorem e_unmap (h : Lay M) (hd : d < 5) (hf : 100 < fu) {f : Nat} (hf5 : f < 5) : F_X2_unmap fu d (i3 f) (emb d D M) = some (emb d (unmapT D f) M) := by
  unfold F_X2_unmap
  have key := lpc (fun n i (F : xT) => L_X2_unmap_2 fu n d (i3 f) (i3 i) (emb d F M)) (fun i => (fun j k => if j = 9 ∧ f * 4 ≤ k ∧ k < f * 4 + i then 0 else D j k)) 4 (some (emb d (unmapT D f) M)) ?_ ?_ fu 0 (by omega) (by omega)
  · have g0 : (fun j k => if j = 9 ∧ f * 4 ≤ k ∧ k < f * 4 + 0 then 0 else D j k : xT) = D := by funext j k; rw [if_neg (by omega)]
    rw [g0] at key; exact key
  · intro n i hi
    show L_X2_unmap_2 fu (n + 1) d (i3 f) (i3 i) (emb d _ M) = L_X2_unmap_2 fu n d (i3 f) (i3 (i + 1)) (emb d _ M)
    conv => lhs; unfold L_X2_unmap_2
    simp (disch := first | assumption | omega) only [l0_7, l0_8, l0_9, l0_10, l0_11, l0_12, l0_13, l0_14, l0_15, l2_0, l2_5, l2_6, l2_7, l2_8, l2_9, l2_12, l2_13, l7_4, l7_5, l7_6, l7_7, l8_0, l8_1, l8_2, l9_1, l9_2, l9_3, l9_4, l4_0_0, l4_0_1, l4_0_2, l4_0_3, l3_0_2, l3_0_3, l3_0_4, l3_0_5, l10_0_0, l1_0_1, l1_0_2, l1_0_3, l1_1_1, l1_1_2, l1_1_3, l1_2_1, l1_2_2, l1_2_3, l5_0_0, l5_0_2, l5_0_3, l5_0_4, l11_0_0, l11_0_5, l11_0_6, l11_0_7, l11_0_8, l11_0_9, l11_0_10, l11_0_11, l11_0_12, l11_0_13, l24_0_0, l24_0_1, l25_0_0, l25_0_1, l12_0_1, l12_0_4, l12_0_5, l12_0_6, l12_0_9, l12_0_10, l12_0_11, l12_0_13, l12_0_14, l12_0_15, l12_0_16, l12_0_17, l12_0_18, l12_0_19, l12_0_23, l12_0_24, l12_0_25, l12_0_27, n_a0, n_a1, n_a2, n_a3, n_a4, n_a5, n_a6, n_a7, n_a8, n_a9, n_a10, n_b0, n_b1, n_b2, n_p0, n_p1, n_p2, n_p3, n_p4, n_s0, n_s1, n_s2, n_s3, n_nm, n20_18, n20_19, n20_20, n20_21, n20_44, n20_45, n20_46, n20_47, n20_48, n20_49, n20_83, n20_84, n20_85, n20_86, n20_87, n20_88, n20_89, n20_90, n20_91, n20_92, n20_93, n20_94, n20_95, n20_96, n20_97, n20_98, n21_2, n21_3, n21_4, n21_5, n21_6, n22_6, n22_7, n22_17, n22_18, n22_19, n22_20, n23_0, n24_0, n25_0, r_a0, w_a0, r_a1, w_a1, r_a2, w_a2, r_a3, w_a3, r_a4, w_a4, r_a5, w_a5, r_a6, w_a6, r_a7, w_a7, r_a8, w_a8, r_a9, w_a9, r_a10, w_a10, r_b0, w_b0, r_b1, w_b1, r_b2, w_b2, r_d, w_d, r_c, w_c, r_e, w_e, r_t, w_t, r_f0, w_f0, r_f1, w_f1, r_f2, w_f2, r_f3, w_f3, r_e0, w_e0, r_e1, w_e1, r_e2, w_e2, r_o7, r_o8, r_o9, r_o10, r_o1, r_o5, r_o6, r_o11, r_o12, r_o21, r_o23, r_p0, r_p1, r_p2, r_s0, r_s1, r_s2, r_s3, i3_add1, i3_add, i3_mul, i3_addl, i3_mull, i3_ladd, i3_lmul, i3_div4, i3_le, i3_lt, i3_eq, i3_lel, i3_lle, i3_ltl, i3_llt, i3_eql, i3_leq, i3_nl, i3_0l, i3_nn, n1_lt, n1_le, xi_i3, xin_i3, xi_lit, xin_lit, xb0, xb1, gd_t, nz4, Option.bind_some, gR_emb, gN_emb, gL_emb, ↓reduceIte, if_true, if_false, not_true_eq_false, not_false_eq_true, eq_self, Nat.not_lt_zero, Nat.zero_le, true_or, or_true, false_or, or_false, true_and, and_true, false_and, and_false]
    rw [if_neg (by omega)]
    congr 2
    funext j k
    simp only [up_at]
    by_cases c : j = 9
    · by_cases c2 : k = f * 4 + i
      · simp [c, c2]
      · have q : (k < f * 4 + (i + 1)) = (k < f * 4 + i) := by apply propext; omega
        simp [c, c2, q]
    · simp [c]
  · intro n
    show L_X2_unmap_2 fu (n + 1) d (i3 f) (i3 4) (emb d _ M) = _
    conv => lhs; unfold L_X2_unmap_2
    simp (disch := first | assumption | omega) only [l0_7, l0_8, l0_9, l0_10, l0_11, l0_12, l0_13, l0_14, l0_15, l2_0, l2_5, l2_6, l2_7, l2_8, l2_9, l2_12, l2_13, l7_4, l7_5, l7_6, l7_7, l8_0, l8_1, l8_2, l9_1, l9_2, l9_3, l9_4, l4_0_0, l4_0_1, l4_0_2, l4_0_3, l3_0_2, l3_0_3, l3_0_4, l3_0_5, l10_0_0, l1_0_1, l1_0_2, l1_0_3, l1_1_1, l1_1_2, l1_1_3, l1_2_1, l1_2_2, l1_2_3, l5_0_0, l5_0_2, l5_0_3, l5_0_4, l11_0_0, l11_0_5, l11_0_6, l11_0_7, l11_0_8, l11_0_9, l11_0_10, l11_0_11, l11_0_12, l11_0_13, l24_0_0, l24_0_1, l25_0_0, l25_0_1, l12_0_1, l12_0_4, l12_0_5, l12_0_6, l12_0_9, l12_0_10, l12_0_11, l12_0_13, l12_0_14, l12_0_15, l12_0_16, l12_0_17, l12_0_18, l12_0_19, l12_0_23, l12_0_24, l12_0_25, l12_0_27, n_a0, n_a1, n_a2, n_a3, n_a4, n_a5, n_a6, n_a7, n_a8, n_a9, n_a10, n_b0, n_b1, n_b2, n_p0, n_p1, n_p2, n_p3, n_p4, n_s0, n_s1, n_s2, n_s3, n_nm, n20_18, n20_19, n20_20, n20_21, n20_44, n20_45, n20_46, n20_47, n20_48, n20_49, n20_83, n20_84, n20_85, n20_86, n20_87, n20_88, n20_89, n20_90, n20_91, n20_92, n20_93, n20_94, n20_95, n20_96, n20_97, n20_98, n21_2, n21_3, n21_4, n21_5, n21_6, n22_6, n22_7, n22_17, n22_18, n22_19, n22_20, n23_0, n24_0, n25_0, r_a0, w_a0, r_a1, w_a1, r_a2, w_a2, r_a3, w_a3, r_a4, w_a4, r_a5, w_a5, r_a6, w_a6, r_a7, w_a7, r_a8, w_a8, r_a9, w_a9, r_a10, w_a10, r_b0, w_b0, r_b1, w_b1, r_b2, w_b2, r_d, w_d, r_c, w_c, r_e, w_e, r_t, w_t, r_f0, w_f0, r_f1, w_f1, r_f2, w_f2, r_f3, w_f3, r_e0, w_e0, r_e1, w_e1, r_e2, w_e2, r_o7, r_o8, r_o9, r_o10, r_o1, r_o5, r_o6, r_o11, r_o12, r_o21, r_o23, r_p0, r_p1, r_p2, r_s0, r_s1, r_s2, r_s3, i3_add1, i3_add, i3_mul, i3_addl, i3_mull, i3_ladd, i3_lmul, i3_div4, i3_le, i3_lt, i3_eq, i3_lel, i3_lle, i3_ltl, i3_llt, i3_eql, i3_leq, i3_nl, i3_0l, i3_nn, n1_lt, n1_le, xi_i3, xin_i3, xi_lit, xin_lit, xb0, xb1, gd_t, nz4, Option.bind_some, gR_emb, gN_emb, gL_emb, ↓reduceIte, if_true, if_false, not_true_eq_false, not_false_eq_true, eq_self, Nat.not_lt_zero, Nat.zero_le, true_or, or_true, false_or, or_false, true_and, and_true, false_and, and_false, Nat.le_refl]
    congr 2
    unfold unmapT
    funext j k
    simp only [up_at]
    by_cases c : j = 14
    · subst c; simp
    · have : ¬ (j = 14 ∧ k = 11) := by omega
      simp only [if_neg this]
theorem unmapT_lo {f j k : Nat} (h : j ≠ 9 ∧ (j ≠ 14 ∨ k ≠ 11)) : unmapT D f j k = D j k := by unfold unmapT; rw [if_neg (by omega), if_neg (by omega)]
theorem Okd_unmap {f : Nat} (hO : Okd d nb nw D) : Okd d nb nw (unmapT D f) := Okd_congr hO (fun j k q => unmapT_lo (by omega))
theorem remB_ok {nt : Bool} {f : Nat} (hf : f < 5) (hO : Okd d (C 0 0) (C 0 1) D) : Okd d (C 0 0) (C 0 1) (remB C nt f D).2 := by
  have h1 := putNewT_ok (nt := nt) (k := 2) (f := i3 f) (p := -1) (v := -1) hO ⟨fun e => absurd e (by decide), fun _ => ⟨f, hf, rfl⟩, by decide⟩
  unfold remB
  split
  · simp only
    split
    · split
      · exact Okd_unmap h1
      · exact Okd_up h1 (by omega)
    · exact h1
  · exact hO
theorem mapN_le (D : xT) (f : Nat) : mapN D f ≤ 4 := cnt_le _ _
theorem cnt_sub {p q : Nat → Bool} {s : Nat} : ∀ {m n : Nat}, s + m ≤ n → (∀ i, i < m → q i = true → p (s + i) = true) → cnt q m ≤ cnt p n
  | 0, n, _, _ => Nat.zero_le _
  | m + 1, n, hn, hq => by
    have key : ∀ k, cnt p (s + m + 1) ≤ cnt p (s + m + 1 + k) := by
      intro k
      induction k with
      | zero => exact Nat.le_refl _
      | succ k ih => exact Nat.le_trans ih (by show cnt p (s + m + 1 + k) ≤ (if p (s + m + 1 + k) then cnt p (s + m + 1 + k) + 1 else cnt p (s + m + 1 + k)); split <;> omega)
    have h1 := key (n - (s + m + 1))
    rw [show s + m + 1 + (n - (s + m + 1)) = n by omega] at h1
    have ih := cnt_sub (p := p) (q := q) (s := s) (m := m) (n := s + m) (Nat.le_refl _) (fun i hi => hq i (by omega))
    have h2 : cnt q (m + 1) ≤ cnt p (s + m + 1) := by
      rw [cnt_s, cnt_s]
      cases e : q m with
      | false => simp only [Bool.false_eq_true, if_false]; split <;> omega
      | true => rw [hq m (by omega) e]; simp only [if_true]; omega
    omega
theorem mapN_kept {f : Nat} (hf : f < 5) (ho : D 12 f = 0) : mapN D f ≤ keptN D := by
  unfold mapN keptN
  refine cnt_sub (s := f * 4) (by omega) (fun i hi hq => ?_)
  unfold keptT
  rw [show (f * 4 + i) / 4 = f by omega, ho]
  simpa using hq
theorem e_remB (h : Lay M) (hd : d < 5) (hC : Cfg C R a M) (hp : gR M 2 d 4 = some a) (hf : 300 < fu) {f : Nat} (hf' : f < C 0 3) (ho : D 12 f = 0) (hO : Okd d (C 0 0) (C 0 1) D) : J_X2_removeFile_56 fu d (i3 f) (emb d D M) = some ((remB C (decide (d = 2)) f D).1, emb d (remB C (decide (d = 2)) f D).2 M) := by
  have c4 := hC.2.2.2.1
  have c3 := hC.2.2.1
  have k8 := hC.2.2.2.2.2.2.2.1
  have hk := keptN_le D
  have hm := mapN_kept (D := D) (show f < 5 by omega) ho
  have e1 := e_keptPages (M := M) (fu := fu) h hd (show 100 < fu by omega) (D := D)
  have e2 := e_mappedBits (M := M) (fu := fu) h hd (show 100 < fu by omega) (D := D) (show f < 5 by omega)
  have e3 := e_bitCount (fu := fu) (bitsN D f) (bitsN_lt D f) (emb d D M)
  rw [mapN_bits] at e3
  unfold J_X2_removeFile_56 remB
  generalize keptN D = kn at e1 hk hm ⊢
  generalize mapN D f = mn at e3 hm ⊢
  generalize bitsN D f = bn at e2 e3
  have e4 := e_partsOf (fu := fu) (n := kn - mn) (by omega) (M := emb d D M)
  rw [← i3_sub hm] at e4
  rw [e1, Option.bind_some, e2, Option.bind_some, e3, Option.bind_some, e4, Option.bind_some]
  simp (disch := first | assumption | omega) only [l0_7, l0_8, l0_9, l0_10, l0_11, l0_12, l0_13, l0_14, l0_15, l2_0, l2_5, l2_6, l2_7, l2_8, l2_9, l2_12, l2_13, l7_4, l7_5, l7_6, l7_7, l8_0, l8_1, l8_2, l9_1, l9_2, l9_3, l9_4, l4_0_0, l4_0_1, l4_0_2, l4_0_3, l3_0_2, l3_0_3, l3_0_4, l3_0_5, l10_0_0, l1_0_1, l1_0_2, l1_0_3, l1_1_1, l1_1_2, l1_1_3, l1_2_1, l1_2_2, l1_2_3, l5_0_0, l5_0_2, l5_0_3, l5_0_4, l11_0_0, l11_0_5, l11_0_6, l11_0_7, l11_0_8, l11_0_9, l11_0_10, l11_0_11, l11_0_12, l11_0_13, l24_0_0, l24_0_1, l25_0_0, l25_0_1, l12_0_1, l12_0_4, l12_0_5, l12_0_6, l12_0_9, l12_0_10, l12_0_11, l12_0_13, l12_0_14, l12_0_15, l12_0_16, l12_0_17, l12_0_18, l12_0_19, l12_0_23, l12_0_24, l12_0_25, l12_0_27, n_a0, n_a1, n_a2, n_a3, n_a4, n_a5, n_a6, n_a7, n_a8, n_a9, n_a10, n_b0, n_b1, n_b2, n_p0, n_p1, n_p2, n_p3, n_p4, n_s0, n_s1, n_s2, n_s3, n_nm, n20_18, n20_19, n20_20, n20_21, n20_44, n20_45, n20_46, n20_47, n20_48, n20_49, n20_83, n20_84, n20_85, n20_86, n20_87, n20_88, n20_89, n20_90, n20_91, n20_92, n20_93, n20_94, n20_95, n20_96, n20_97, n20_98, n21_2, n21_3, n21_4, n21_5, n21_6, n22_6, n22_7, n22_17, n22_18, n22_19, n22_20, n23_0, n24_0, n25_0, r_a0, w_a0, r_a1, w_a1, r_a2, w_a2, r_a3, w_a3, r_a4, w_a4, r_a5, w_a5, r_a6, w_a6, r_a7, w_a7, r_a8, w_a8, r_a9, w_a9, r_a10, w_a10, r_b0, w_b0, r_b1, w_b1, r_b2, w_b2, r_d, w_d, r_c, w_c, r_e, w_e, r_t, w_t, r_f0, w_f0, r_f1, w_f1, r_f2, w_f2, r_f3, w_f3, r_e0, w_e0, r_e1, w_e1, r_e2, w_e2, r_o7, r_o8, r_o9, r_o10, r_o1, r_o5, r_o6, r_o11, r_o12, r_o21, r_o23, r_p0, r_p1, r_p2, r_s0, r_s1, r_s2, r_s3, i3_add1, i3_add, i3_mul, i3_addl, i3_mull, i3_ladd, i3_lmul, i3_div4, i3_le, i3_lt, i3_eq, i3_lel, i3_lle, i3_ltl, i3_llt, i3_eql, i3_leq, i3_nl, i3_0l, i3_nn, n1_lt, n1_le, xi_i3, xin_i3, xi_lit, xin_lit, xb0, xb1, gd_t, nz4, Option.bind_some, gR_emb, gN_emb, gL_emb, ↓reduceIte, if_true, if_false, not_true_eq_false, not_false_eq_true, eq_self, Nat.not_lt_zero, Nat.zero_le, true_or, or_true, false_or, or_false, true_and, and_true, false_and, and_false, hp, k8]
  by_cases c : i3 (1 + ((kn - mn) / 4 + 1) + C 0 2) ≤ D 15 3
  · simp (disch := first | assumption | omega) only [l0_7, l0_8, l0_9, l0_10, l0_11, l0_12, l0_13, l0_14, l0_15, l2_0, l2_5, l2_6, l2_7, l2_8, l2_9, l2_12, l2_13, l7_4, l7_5, l7_6, l7_7, l8_0, l8_1, l8_2, l9_1, l9_2, l9_3, l9_4, l4_0_0, l4_0_1, l4_0_2, l4_0_3, l3_0_2, l3_0_3, l3_0_4, l3_0_5, l10_0_0, l1_0_1, l1_0_2, l1_0_3, l1_1_1, l1_1_2, l1_1_3, l1_2_1, l1_2_2, l1_2_3, l5_0_0, l5_0_2, l5_0_3, l5_0_4, l11_0_0, l11_0_5, l11_0_6, l11_0_7, l11_0_8, l11_0_9, l11_0_10, l11_0_11, l11_0_12, l11_0_13, l24_0_0, l24_0_1, l25_0_0, l25_0_1, l12_0_1, l12_0_4, l12_0_5, l12_0_6, l12_0_9, l12_0_10, l12_0_11, l12_0_13, l12_0_14, l12_0_15, l12_0_16, l12_0_17, l12_0_18, l12_0_19, l12_0_23, l12_0_24, l12_0_25, l12_0_27, n_a0, n_a1, n_a2, n_a3, n_a4, n_a5, n_a6, n_a7, n_a8, n_a9, n_a10, n_b0, n_b1, n_b2, n_p0, n_p1, n_p2, n_p3, n_p4, n_s0, n_s1, n_s2, n_s3, n_nm, n20_18, n20_19, n20_20, n20_21, n20_44, n20_45, n20_46, n20_47, n20_48, n20_49, n20_83, n20_84, n20_85, n20_86, n20_87, n20_88, n20_89, n20_90, n20_91, n20_92, n20_93, n20_94, n20_95, n20_96, n20_97, n20_98, n21_2, n21_3, n21_4, n21_5, n21_6, n22_6, n22_7, n22_17, n22_18, n22_19, n22_20, n23_0, n24_0, n25_0, r_a0, w_a0, r_a1, w_a1, r_a2, w_a2, r_a3, w_a3, r_a4, w_a4, r_a5, w_a5, r_a6, w_a6, r_a7, w_a7, r_a8, w_a8, r_a9, w_a9, r_a10, w_a10, r_b0, w_b0, r_b1, w_b1, r_b2, w_b2, r_d, w_d, r_c, w_c, r_e, w_e, r_t, w_t, r_f0, w_f0, r_f1, w_f1, r_f2, w_f2, r_f3, w_f3, r_e0, w_e0, r_e1, w_e1, r_e2, w_e2, r_o7, r_o8, r_o9, r_o10, r_o1, r_o5, r_o6, r_o11, r_o12, r_o21, r_o23, r_p0, r_p1, r_p2, r_s0, r_s1, r_s2, r_s3, i3_add1, i3_add, i3_mul, i3_addl, i3_mull, i3_ladd, i3_lmul, i3_div4, i3_le, i3_lt, i3_eq, i3_lel, i3_lle, i3_ltl, i3_llt, i3_eql, i3_leq, i3_nl, i3_0l, i3_nn, n1_lt, n1_le, xi_i3, xin_i3, xi_lit, xin_lit, xb0, xb1, gd_t, nz4, Option.bind_some, gR_emb, gN_emb, gL_emb, ↓reduceIte, if_true, if_false, not_true_eq_false, not_false_eq_true, eq_self, Nat.not_lt_zero, Nat.zero_le, true_or, or_true, false_or, or_false, true_and, and_true, false_and, and_false, c, e_putNew h hd hO hf, bz_0]
    cases q : (putNewT (decide (d = 2)) D (C 0 0) (C 0 1) 2 (i3 f) (-1) (-1)).1 with
    | false => simp (disch := first | assumption | omega) only [l0_7, l0_8, l0_9, l0_10, l0_11, l0_12, l0_13, l0_14, l0_15, l2_0, l2_5, l2_6, l2_7, l2_8, l2_9, l2_12, l2_13, l7_4, l7_5, l7_6, l7_7, l8_0, l8_1, l8_2, l9_1, l9_2, l9_3, l9_4, l4_0_0, l4_0_1, l4_0_2, l4_0_3, l3_0_2, l3_0_3, l3_0_4, l3_0_5, l10_0_0, l1_0_1, l1_0_2, l1_0_3, l1_1_1, l1_1_2, l1_1_3, l1_2_1, l1_2_2, l1_2_3, l5_0_0, l5_0_2, l5_0_3, l5_0_4, l11_0_0, l11_0_5, l11_0_6, l11_0_7, l11_0_8, l11_0_9, l11_0_10, l11_0_11, l11_0_12, l11_0_13, l24_0_0, l24_0_1, l25_0_0, l25_0_1, l12_0_1, l12_0_4, l12_0_5, l12_0_6, l12_0_9, l12_0_10, l12_0_11, l12_0_13, l12_0_14, l12_0_15, l12_0_16, l12_0_17, l12_0_18, l12_0_19, l12_0_23, l12_0_24, l12_0_25, l12_0_27, n_a0, n_a1, n_a2, n_a3, n_a4, n_a5, n_a6, n_a7, n_a8, n_a9, n_a10, n_b0, n_b1, n_b2, n_p0, n_p1, n_p2, n_p3, n_p4, n_s0, n_s1, n_s2, n_s3, n_nm, n20_18, n20_19, n20_20, n20_21, n20_44, n20_45, n20_46, n20_47, n20_48, n20_49, n20_83, n20_84, n20_85, n20_86, n20_87, n20_88, n20_89, n20_90, n20_91, n20_92, n20_93, n20_94, n20_95, n20_96, n20_97, n20_98, n21_2, n21_3, n21_4, n21_5, n21_6, n22_6, n22_7, n22_17, n22_18, n22_19, n22_20, n23_0, n24_0, n25_0, r_a0, w_a0, r_a1, w_a1, r_a2, w_a2, r_a3, w_a3, r_a4, w_a4, r_a5, w_a5, r_a6, w_a6, r_a7, w_a7, r_a8, w_a8, r_a9, w_a9, r_a10, w_a10, r_b0, w_b0, r_b1, w_b1, r_b2, w_b2, r_d, w_d, r_c, w_c, r_e, w_e, r_t, w_t, r_f0, w_f0, r_f1, w_f1, r_f2, w_f2, r_f3, w_f3, r_e0, w_e0, r_e1, w_e1, r_e2, w_e2, r_o7, r_o8, r_o9, r_o10, r_o1, r_o5, r_o6, r_o11, r_o12, r_o21, r_o23, r_p0, r_p1, r_p2, r_s0, r_s1, r_s2, r_s3, i3_add1, i3_add, i3_mul, i3_addl, i3_mull, i3_ladd, i3_lmul, i3_div4, i3_le, i3_lt, i3_eq, i3_lel, i3_lle, i3_ltl, i3_llt, i3_eql, i3_leq, i3_nl, i3_0l, i3_nn, n1_lt, n1_le, xi_i3, xin_i3, xi_lit, xin_lit, xb0, xb1, gd_t, nz4, Option.bind_some, gR_emb, gN_emb, gL_emb, ↓reduceIte, if_true, if_false, not_true_eq_false, not_false_eq_true, eq_self, Nat.not_lt_zero, Nat.zero_le, true_or, or_true, false_or, or_false, true_and, and_true, false_and, and_false, Bool.false_eq_true]
    | true =>
      simp (disch := first | assumption | omega) only [l0_7, l0_8, l0_9, l0_10, l0_11, l0_12, l0_13, l0_14, l0_15, l2_0, l2_5, l2_6, l2_7, l2_8, l2_9, l2_12, l2_13, l7_4, l7_5, l7_6, l7_7, l8_0, l8_1, l8_2, l9_1, l9_2, l9_3, l9_4, l4_0_0, l4_0_1, l4_0_2, l4_0_3, l3_0_2, l3_0_3, l3_0_4, l3_0_5, l10_0_0, l1_0_1, l1_0_2, l1_0_3, l1_1_1, l1_1_2, l1_1_3, l1_2_1, l1_2_2, l1_2_3, l5_0_0, l5_0_2, l5_0_3, l5_0_4, l11_0_0, l11_0_5, l11_0_6, l11_0_7, l11_0_8, l11_0_9, l11_0_10, l11_0_11, l11_0_12, l11_0_13, l24_0_0, l24_0_1, l25_0_0, l25_0_1, l12_0_1, l12_0_4, l12_0_5, l12_0_6, l12_0_9, l12_0_10, l12_0_11, l12_0_13, l12_0_14, l12_0_15, l12_0_16, l12_0_17, l12_0_18, l12_0_19, l12_0_23, l12_0_24, l12_0_25, l12_0_27, n_a0, n_a1, n_a2, n_a3, n_a4, n_a5, n_a6, n_a7, n_a8, n_a9, n_a10, n_b0, n_b1, n_b2, n_p0, n_p1, n_p2, n_p3, n_p4, n_s0, n_s1, n_s2, n_s3, n_nm, n20_18, n20_19, n20_20, n20_21, n20_44, n20_45, n20_46, n20_47, n20_48, n20_49, n20_83, n20_84, n20_85, n20_86, n20_87, n20_88, n20_89, n20_90, n20_91, n20_92, n20_93, n20_94, n20_95, n20_96, n20_97, n20_98, n21_2, n21_3, n21_4, n21_5, n21_6, n22_6, n22_7, n22_17, n22_18, n22_19, n22_20, n23_0, n24_0, n25_0, r_a0, w_a0, r_a1, w_a1, r_a2, w_a2, r_a3, w_a3, r_a4, w_a4, r_a5, w_a5, r_a6, w_a6, r_a7, w_a7, r_a8, w_a8, r_a9, w_a9, r_a10, w_a10, r_b0, w_b0, r_b1, w_b1, r_b2, w_b2, r_d, w_d, r_c, w_c, r_e, w_e, r_t, w_t, r_f0, w_f0, r_f1, w_f1, r_f2, w_f2, r_f3, w_f3, r_e0, w_e0, r_e1, w_e1, r_e2, w_e2, r_o7, r_o8, r_o9, r_o10, r_o1, r_o5, r_o6, r_o11, r_o12, r_o21, r_o23, r_p0, r_p1, r_p2, r_s0, r_s1, r_s2, r_s3, i3_add1, i3_add, i3_mul, i3_addl, i3_mull, i3_ladd, i3_lmul, i3_div4, i3_le, i3_lt, i3_eq, i3_lel, i3_lle, i3_ltl, i3_llt, i3_eql, i3_leq, i3_nl, i3_0l, i3_nn, n1_lt, n1_le, xi_i3, xin_i3, xi_lit, xin_lit, xb0, xb1, gd_t, nz4, Option.bind_some, gR_emb, gN_emb, gL_emb, ↓reduceIte, if_true, if_false, not_true_eq_false, not_false_eq_true, eq_self, Nat.not_lt_zero, Nat.zero_le, true_or, or_true, false_or, or_false, true_and, and_true, false_and, and_false, Bool.true_eq_false]
      by_cases c2 : (putNewT (decide (d = 2)) D (C 0 0) (C 0 1) 2 (i3 f) (-1) (-1)).2 11 f = 0
      · simp (disch := first | assumption | omega) only [l0_7, l0_8, l0_9, l0_10, l0_11, l0_12, l0_13, l0_14, l0_15, l2_0, l2_5, l2_6, l2_7, l2_8, l2_9, l2_12, l2_13, l7_4, l7_5, l7_6, l7_7, l8_0, l8_1, l8_2, l9_1, l9_2, l9_3, l9_4, l4_0_0, l4_0_1, l4_0_2, l4_0_3, l3_0_2, l3_0_3, l3_0_4, l3_0_5, l10_0_0, l1_0_1, l1_0_2, l1_0_3, l1_1_1, l1_1_2, l1_1_3, l1_2_1, l1_2_2, l1_2_3, l5_0_0, l5_0_2, l5_0_3, l5_0_4, l11_0_0, l11_0_5, l11_0_6, l11_0_7, l11_0_8, l11_0_9, l11_0_10, l11_0_11, l11_0_12, l11_0_13, l24_0_0, l24_0_1, l25_0_0, l25_0_1, l12_0_1, l12_0_4, l12_0_5, l12_0_6, l12_0_9, l12_0_10, l12_0_11, l12_0_13, l12_0_14, l12_0_15, l12_0_16, l12_0_17, l12_0_18, l12_0_19, l12_0_23, l12_0_24, l12_0_25, l12_0_27, n_a0, n_a1, n_a2, n_a3, n_a4, n_a5, n_a6, n_a7, n_a8, n_a9, n_a10, n_b0, n_b1, n_b2, n_p0, n_p1, n_p2, n_p3, n_p4, n_s0, n_s1, n_s2, n_s3, n_nm, n20_18, n20_19, n20_20, n20_21, n20_44, n20_45, n20_46, n20_47, n20_48, n20_49, n20_83, n20_84, n20_85, n20_86, n20_87, n20_88, n20_89, n20_90, n20_91, n20_92, n20_93, n20_94, n20_95, n20_96, n20_97, n20_98, n21_2, n21_3, n21_4, n21_5, n21_6, n22_6, n22_7, n22_17, n22_18, n22_19, n22_20, n23_0, n24_0, n25_0, r_a0, w_a0, r_a1, w_a1, r_a2, w_a2, r_a3, w_a3, r_a4, w_a4, r_a5, w_a5, r_a6, w_a6, r_a7, w_a7, r_a8, w_a8, r_a9, w_a9, r_a10, w_a10, r_b0, w_b0, r_b1, w_b1, r_b2, w_b2, r_d, w_d, r_c, w_c, r_e, w_e, r_t, w_t, r_f0, w_f0, r_f1, w_f1, r_f2, w_f2, r_f3, w_f3, r_e0, w_e0, r_e1, w_e1, r_e2, w_e2, r_o7, r_o8, r_o9, r_o10, r_o1, r_o5, r_o6, r_o11, r_o12, r_o21, r_o23, r_p0, r_p1, r_p2, r_s0, r_s1, r_s2, r_s3, i3_add1, i3_add, i3_mul, i3_addl, i3_mull, i3_ladd, i3_lmul, i3_div4, i3_le, i3_lt, i3_eq, i3_lel, i3_lle, i3_ltl, i3_llt, i3_eql, i3_leq, i3_nl, i3_0l, i3_nn, n1_lt, n1_le, xi_i3, xin_i3, xi_lit, xin_lit, xb0, xb1, gd_t, nz4, Option.bind_some, gR_emb, gN_emb, gL_emb, ↓reduceIte, if_true, if_false, not_true_eq_false, not_false_eq_true, eq_self, Nat.not_lt_zero, Nat.zero_le, true_or, or_true, false_or, or_false, true_and, and_true, false_and, and_false, c2, e_unmap h hd (show 100 < fu by omega) (show f < 5 by omega)]
      · simp (disch := first | assumption | omega) only [l0_7, l0_8, l0_9, l0_10, l0_11, l0_12, l0_13, l0_14, l0_15, l2_0, l2_5, l2_6, l2_7, l2_8, l2_9, l2_12, l2_13, l7_4, l7_5, l7_6, l7_7, l8_0, l8_1, l8_2, l9_1, l9_2, l9_3, l9_4, l4_0_0, l4_0_1, l4_0_2, l4_0_3, l3_0_2, l3_0_3, l3_0_4, l3_0_5, l10_0_0, l1_0_1, l1_0_2, l1_0_3, l1_1_1, l1_1_2, l1_1_3, l1_2_1, l1_2_2, l1_2_3, l5_0_0, l5_0_2, l5_0_3, l5_0_4, l11_0_0, l11_0_5, l11_0_6, l11_0_7, l11_0_8, l11_0_9, l11_0_10, l11_0_11, l11_0_12, l11_0_13, l24_0_0, l24_0_1, l25_0_0, l25_0_1, l12_0_1, l12_0_4, l12_0_5, l12_0_6, l12_0_9, l12_0_10, l12_0_11, l12_0_13, l12_0_14, l12_0_15, l12_0_16, l12_0_17, l12_0_18, l12_0_19, l12_0_23, l12_0_24, l12_0_25, l12_0_27, n_a0, n_a1, n_a2, n_a3, n_a4, n_a5, n_a6, n_a7, n_a8, n_a9, n_a10, n_b0, n_b1, n_b2, n_p0, n_p1, n_p2, n_p3, n_p4, n_s0, n_s1, n_s2, n_s3, n_nm, n20_18, n20_19, n20_20, n20_21, n20_44, n20_45, n20_46, n20_47, n20_48, n20_49, n20_83, n20_84, n20_85, n20_86, n20_87, n20_88, n20_89, n20_90, n20_91, n20_92, n20_93, n20_94, n20_95, n20_96, n20_97, n20_98, n21_2, n21_3, n21_4, n21_5, n21_6, n22_6, n22_7, n22_17, n22_18, n22_19, n22_20, n23_0, n24_0, n25_0, r_a0, w_a0, r_a1, w_a1, r_a2, w_a2, r_a3, w_a3, r_a4, w_a4, r_a5, w_a5, r_a6, w_a6, r_a7, w_a7, r_a8, w_a8, r_a9, w_a9, r_a10, w_a10, r_b0, w_b0, r_b1, w_b1, r_b2, w_b2, r_d, w_d, r_c, w_c, r_e, w_e, r_t, w_t, r_f0, w_f0, r_f1, w_f1, r_f2, w_f2, r_f3, w_f3, r_e0, w_e0, r_e1, w_e1, r_e2, w_e2, r_o7, r_o8, r_o9, r_o10, r_o1, r_o5, r_o6, r_o11, r_o12, r_o21, r_o23, r_p0, r_p1, r_p2, r_s0, r_s1, r_s2, r_s3, i3_add1, i3_add, i3_mul, i3_addl, i3_mull, i3_ladd, i3_lmul, i3_div4, i3_le, i3_lt, i3_eq, i3_lel, i3_lle, i3_ltl, i3_llt, i3_eql, i3_leq, i3_nl, i3_0l, i3_nn, n1_lt, n1_le, xi_i3, xin_i3, xi_lit, xin_lit, xb0, xb1, gd_t, nz4, Option.bind_some, gR_emb, gN_emb, gL_emb, ↓reduceIte, if_true, if_false, not_true_eq_false, not_false_eq_true, eq_self, Nat.not_lt_zero, Nat.zero_le, true_or, or_true, false_or, or_false, true_and, and_true, false_and, and_false, c2, up_ne (show 14 ≠ 12 ∨ 10 ≠ f from Or.inl (by decide))]
  · simp (disch := first | assumption | omega) only [l0_7, l0_8, l0_9, l0_10, l0_11, l0_12, l0_13, l0_14, l0_15, l2_0, l2_5, l2_6, l2_7, l2_8, l2_9, l2_12, l2_13, l7_4, l7_5, l7_6, l7_7, l8_0, l8_1, l8_2, l9_1, l9_2, l9_3, l9_4, l4_0_0, l4_0_1, l4_0_2, l4_0_3, l3_0_2, l3_0_3, l3_0_4, l3_0_5, l10_0_0, l1_0_1, l1_0_2, l1_0_3, l1_1_1, l1_1_2, l1_1_3, l1_2_1, l1_2_2, l1_2_3, l5_0_0, l5_0_2, l5_0_3, l5_0_4, l11_0_0, l11_0_5, l11_0_6, l11_0_7, l11_0_8, l11_0_9, l11_0_10, l11_0_11, l11_0_12, l11_0_13, l24_0_0, l24_0_1, l25_0_0, l25_0_1, l12_0_1, l12_0_4, l12_0_5, l12_0_6, l12_0_9, l12_0_10, l12_0_11, l12_0_13, l12_0_14, l12_0_15, l12_0_16, l12_0_17, l12_0_18, l12_0_19, l12_0_23, l12_0_24, l12_0_25, l12_0_27, n_a0, n_a1, n_a2, n_a3, n_a4, n_a5, n_a6, n_a7, n_a8, n_a9, n_a10, n_b0, n_b1, n_b2, n_p0, n_p1, n_p2, n_p3, n_p4, n_s0, n_s1, n_s2, n_s3, n_nm, n20_18, n20_19, n20_20, n20_21, n20_44, n20_45, n20_46, n20_47, n20_48, n20_49, n20_83, n20_84, n20_85, n20_86, n20_87, n20_88, n20_89, n20_90, n20_91, n20_92, n20_93, n20_94, n20_95, n20_96, n20_97, n20_98, n21_2, n21_3, n21_4, n21_5, n21_6, n22_6, n22_7, n22_17, n22_18, n22_19, n22_20, n23_0, n24_0, n25_0, r_a0, w_a0, r_a1, w_a1, r_a2, w_a2, r_a3, w_a3, r_a4, w_a4, r_a5, w_a5, r_a6, w_a6, r_a7, w_a7, r_a8, w_a8, r_a9, w_a9, r_a10, w_a10, r_b0, w_b0, r_b1, w_b1, r_b2, w_b2, r_d, w_d, r_c, w_c, r_e, w_e, r_t, w_t, r_f0, w_f0, r_f1, w_f1, r_f2, w_f2, r_f3, w_f3, r_e0, w_e0, r_e1, w_e1, r_e2, w_e2, r_o7, r_o8, r_o9, r_o10, r_o1, r_o5, r_o6, r_o11, r_o12, r_o21, r_o23, r_p0, r_p1, r_p2, r_s0, r_s1, r_s2, r_s3, i3_add1, i3_add, i3_mul, i3_addl, i3_mull, i3_ladd, i3_lmul, i3_div4, i3_le, i3_lt, i3_eq, i3_lel, i3_lle, i3_ltl, i3_llt, i3_eql, i3_leq, i3_nl, i3_0l, i3_nn, n1_lt, n1_le, xi_i3, xin_i3, xi_lit, xin_lit, xb0, xb1, gd_t, nz4, Option.bind_some, gR_emb, gN_emb, gL_emb, ↓reduceIte, if_true, if_false, not_true_eq_false, not_false_eq_true, eq_self, Nat.not_lt_zero, Nat.zero_le, true_or, or_true, false_or, or_false, true_and, and_true, false_and, and_false, c]
theorem firstT2_lo {nt : Bool} {j k : Nat} (hj : j = 12) (hp : ∀ E, (collectT nt E (C 0 0) (C 0 1)).1 ≠ -2 → (collectT nt E (C 0 0) (C 0 1)).2 j k = E j k) (hn : (firstT2 C R a nt D).1 = false) : (firstT2 C R a nt D).2 j k = D j k := by
  unfold firstT2 at hn ⊢
  split at hn
  · rename_i c
    rw [if_pos c]
    rw [hp _ (of_decide_eq_false hn), wantsT_lo (by omega)]
  · rename_i c
    rw [if_neg c, wantsT_lo (by omega)]
theorem putT_12 {nt : Bool} {s j k : Nat} (hO : Ok nb nw D) (e : (putT nt D nb nw).1 = some s) (hj : 9 ≤ j ∧ j < 14) : (putT nt D nb nw).2 j k = D j k := (putT_slot hO e).2.2 j k (by omega)
theorem colR_12 {nt : Bool} {b j k : Nat} (hb : b < nb) (hj : 9 ≤ j ∧ j < 14) : ∀ (m i : Nat) (E : xT), i + m = nw → Okd d nb nw E → (colR nt nb nw b m i E).1 ≠ -2 → (colR nt nb nw b m i E).2 j k = E j k
  | 0, i, E, hi, hO, hn => by
    unfold colR
    simp only
    rw [up_ne (by omega), up_ne (by omega), eraseT_lo (by omega) (by omega)]
  | m + 1, i, E, hi, hO, hn => by
    have hB := blk (nw := nw) hb
    unfold colR at hn ⊢
    by_cases c : E 13 (b * nw + i) = 0
    · rw [if_pos c] at hn ⊢; exact colR_12 hb hj m (i + 1) E (by omega) hO hn
    · rw [if_neg c] at hn ⊢
      have hP := putT_ok (nt := nt) hO
      have hS := fun s (e : (putT nt E nb nw).1 = some s) => putT_12 (k := k) hO.1 e hj
      generalize putT nt E nb nw = p at hP hS hn ⊢
      obtain ⟨o, E1⟩ := p
      cases o with
      | none => exact absurd rfl hn
      | some t =>
        simp only at hn ⊢
        rw [colR_12 hb hj m (i + 1) _ (by omega) (Okd_copy hP.1 (by omega)) hn, copyT_lo (by omega)]
        exact hS t rfl
theorem collectT_12 {nt : Bool} {j k : Nat} (hj : j = 9 ∨ j = 11 ∨ j = 12) (hO : Okd d nb nw D) (hn : (collectT nt D nb nw).1 ≠ -2) : (collectT nt D nb nw).2 j k = D j k := by
  have hP := pickT_spec hO
  unfold collectT at hn ⊢
  generalize pickT D nb nw = p at hP hn ⊢
  obtain ⟨o, E1⟩ := p
  cases o with
  | none => exact hP.2.2 j k (by omega)
  | some b => exact (colR_12 (hP.2.1 b rfl) (by omega) nw 0 _ (by omega) hP.1 hn).trans (hP.2.2 j k (by omega))
theorem firstT2_12 {nt : Bool} {j k : Nat} (hj : j = 9 ∨ j = 11 ∨ j = 12) (hO : Okd d (C 0 0) (C 0 1) D) (hn : (firstT2 C R a nt D).1 = false) : (firstT2 C R a nt D).2 j k = D j k := by
  unfold firstT2 at hn ⊢
  by_cases c : (wantsT C R a D).1 = true
  · rw [if_pos c] at hn ⊢
    simp only at hn ⊢
    rw [collectT_12 hj (Okd_wants hO) (of_decide_eq_false hn), wantsT_lo (by omega)]
  · rw [if_neg c]
    exact wantsT_lo (by omega)
theorem removeT_ok {nt : Bool} {x : Int32} (hc : C 0 3 ≤ 5) (hO : Okd d (C 0 0) (C 0 1) D) : Okd d (C 0 0) (C 0 1) (removeT C R a nt D x).2 := by
  unfold removeT
  split
  · rename_i c
    simp only [Bool.and_eq_true] at c
    obtain ⟨f, hf', rfl⟩ := isFile_ex c.2.1 hc
    split
    · exact firstT2_ok hO
    · rw [xi_i3 (by omega)]
      exact remB_ok (by omega) (firstT2_ok hO)
  · exact hO
theorem e_remove (h : Lay M) (hd : d < 5) (ha : a < 2) (hC : Cfg C R a M) (hp : gR M 2 d 4 = some a) (hO : Okd d (C 0 0) (C 0 1) D) (hf : 1100 < fu) {x : Int32} : F_X2_removeFile fu d x (emb d D M) = some ((removeT C R a (decide (d = 2)) D x).1, emb d (removeT C R a (decide (d = 2)) D x).2 M) := by
  have hC2 : Cfg C R a (emb d D M) := Cfg_emb ha hC
  have c4 := hC.2.2.2.1
  unfold F_X2_removeFile removeT
  by_cases c : D 14 1 = 0
  · simp (disch := first | assumption | omega) only [l0_7, l0_8, l0_9, l0_10, l0_11, l0_12, l0_13, l0_14, l0_15, l2_0, l2_5, l2_6, l2_7, l2_8, l2_9, l2_12, l2_13, l7_4, l7_5, l7_6, l7_7, l8_0, l8_1, l8_2, l9_1, l9_2, l9_3, l9_4, l4_0_0, l4_0_1, l4_0_2, l4_0_3, l3_0_2, l3_0_3, l3_0_4, l3_0_5, l10_0_0, l1_0_1, l1_0_2, l1_0_3, l1_1_1, l1_1_2, l1_1_3, l1_2_1, l1_2_2, l1_2_3, l5_0_0, l5_0_2, l5_0_3, l5_0_4, l11_0_0, l11_0_5, l11_0_6, l11_0_7, l11_0_8, l11_0_9, l11_0_10, l11_0_11, l11_0_12, l11_0_13, l24_0_0, l24_0_1, l25_0_0, l25_0_1, l12_0_1, l12_0_4, l12_0_5, l12_0_6, l12_0_9, l12_0_10, l12_0_11, l12_0_13, l12_0_14, l12_0_15, l12_0_16, l12_0_17, l12_0_18, l12_0_19, l12_0_23, l12_0_24, l12_0_25, l12_0_27, n_a0, n_a1, n_a2, n_a3, n_a4, n_a5, n_a6, n_a7, n_a8, n_a9, n_a10, n_b0, n_b1, n_b2, n_p0, n_p1, n_p2, n_p3, n_p4, n_s0, n_s1, n_s2, n_s3, n_nm, n20_18, n20_19, n20_20, n20_21, n20_44, n20_45, n20_46, n20_47, n20_48, n20_49, n20_83, n20_84, n20_85, n20_86, n20_87, n20_88, n20_89, n20_90, n20_91, n20_92, n20_93, n20_94, n20_95, n20_96, n20_97, n20_98, n21_2, n21_3, n21_4, n21_5, n21_6, n22_6, n22_7, n22_17, n22_18, n22_19, n22_20, n23_0, n24_0, n25_0, r_a0, w_a0, r_a1, w_a1, r_a2, w_a2, r_a3, w_a3, r_a4, w_a4, r_a5, w_a5, r_a6, w_a6, r_a7, w_a7, r_a8, w_a8, r_a9, w_a9, r_a10, w_a10, r_b0, w_b0, r_b1, w_b1, r_b2, w_b2, r_d, w_d, r_c, w_c, r_e, w_e, r_t, w_t, r_f0, w_f0, r_f1, w_f1, r_f2, w_f2, r_f3, w_f3, r_e0, w_e0, r_e1, w_e1, r_e2, w_e2, r_o7, r_o8, r_o9, r_o10, r_o1, r_o5, r_o6, r_o11, r_o12, r_o21, r_o23, r_p0, r_p1, r_p2, r_s0, r_s1, r_s2, r_s3, i3_add1, i3_add, i3_mul, i3_addl, i3_mull, i3_ladd, i3_lmul, i3_div4, i3_le, i3_lt, i3_eq, i3_lel, i3_lle, i3_ltl, i3_llt, i3_eql, i3_leq, i3_nl, i3_0l, i3_nn, n1_lt, n1_le, xi_i3, xin_i3, xi_lit, xin_lit, xb0, xb1, gd_t, nz4, Option.bind_some, gR_emb, gN_emb, gL_emb, ↓reduceIte, if_true, if_false, not_true_eq_false, not_false_eq_true, eq_self, Nat.not_lt_zero, Nat.zero_le, true_or, or_true, false_or, or_false, true_and, and_true, false_and, and_false, c, decide_true, Bool.not_true, Bool.false_and, Bool.false_eq_true]
  · simp (disch := first | assumption | omega) only [l0_7, l0_8, l0_9, l0_10, l0_11, l0_12, l0_13, l0_14, l0_15, l2_0, l2_5, l2_6, l2_7, l2_8, l2_9, l2_12, l2_13, l7_4, l7_5, l7_6, l7_7, l8_0, l8_1, l8_2, l9_1, l9_2, l9_3, l9_4, l4_0_0, l4_0_1, l4_0_2, l4_0_3, l3_0_2, l3_0_3, l3_0_4, l3_0_5, l10_0_0, l1_0_1, l1_0_2, l1_0_3, l1_1_1, l1_1_2, l1_1_3, l1_2_1, l1_2_2, l1_2_3, l5_0_0, l5_0_2, l5_0_3, l5_0_4, l11_0_0, l11_0_5, l11_0_6, l11_0_7, l11_0_8, l11_0_9, l11_0_10, l11_0_11, l11_0_12, l11_0_13, l24_0_0, l24_0_1, l25_0_0, l25_0_1, l12_0_1, l12_0_4, l12_0_5, l12_0_6, l12_0_9, l12_0_10, l12_0_11, l12_0_13, l12_0_14, l12_0_15, l12_0_16, l12_0_17, l12_0_18, l12_0_19, l12_0_23, l12_0_24, l12_0_25, l12_0_27, n_a0, n_a1, n_a2, n_a3, n_a4, n_a5, n_a6, n_a7, n_a8, n_a9, n_a10, n_b0, n_b1, n_b2, n_p0, n_p1, n_p2, n_p3, n_p4, n_s0, n_s1, n_s2, n_s3, n_nm, n20_18, n20_19, n20_20, n20_21, n20_44, n20_45, n20_46, n20_47, n20_48, n20_49, n20_83, n20_84, n20_85, n20_86, n20_87, n20_88, n20_89, n20_90, n20_91, n20_92, n20_93, n20_94, n20_95, n20_96, n20_97, n20_98, n21_2, n21_3, n21_4, n21_5, n21_6, n22_6, n22_7, n22_17, n22_18, n22_19, n22_20, n23_0, n24_0, n25_0, r_a0, w_a0, r_a1, w_a1, r_a2, w_a2, r_a3, w_a3, r_a4, w_a4, r_a5, w_a5, r_a6, w_a6, r_a7, w_a7, r_a8, w_a8, r_a9, w_a9, r_a10, w_a10, r_b0, w_b0, r_b1, w_b1, r_b2, w_b2, r_d, w_d, r_c, w_c, r_e, w_e, r_t, w_t, r_f0, w_f0, r_f1, w_f1, r_f2, w_f2, r_f3, w_f3, r_e0, w_e0, r_e1, w_e1, r_e2, w_e2, r_o7, r_o8, r_o9, r_o10, r_o1, r_o5, r_o6, r_o11, r_o12, r_o21, r_o23, r_p0, r_p1, r_p2, r_s0, r_s1, r_s2, r_s3, i3_add1, i3_add, i3_mul, i3_addl, i3_mull, i3_ladd, i3_lmul, i3_div4, i3_le, i3_lt, i3_eq, i3_lel, i3_lle, i3_ltl, i3_llt, i3_eql, i3_leq, i3_nl, i3_0l, i3_nn, n1_lt, n1_le, xi_i3, xin_i3, xi_lit, xin_lit, xb0, xb1, gd_t, nz4, Option.bind_some, gR_emb, gN_emb, gL_emb, ↓reduceIte, if_true, if_false, not_true_eq_false, not_false_eq_true, eq_self, Nat.not_lt_zero, Nat.zero_le, true_or, or_true, false_or, or_false, true_and, and_true, false_and, and_false, c, hp, e_isFile hC2, decide_false, Bool.not_false, Bool.true_and, bz_0]
    cases e : isFileB C x with
    | false => simp (disch := first | assumption | omega) only [l0_7, l0_8, l0_9, l0_10, l0_11, l0_12, l0_13, l0_14, l0_15, l2_0, l2_5, l2_6, l2_7, l2_8, l2_9, l2_12, l2_13, l7_4, l7_5, l7_6, l7_7, l8_0, l8_1, l8_2, l9_1, l9_2, l9_3, l9_4, l4_0_0, l4_0_1, l4_0_2, l4_0_3, l3_0_2, l3_0_3, l3_0_4, l3_0_5, l10_0_0, l1_0_1, l1_0_2, l1_0_3, l1_1_1, l1_1_2, l1_1_3, l1_2_1, l1_2_2, l1_2_3, l5_0_0, l5_0_2, l5_0_3, l5_0_4, l11_0_0, l11_0_5, l11_0_6, l11_0_7, l11_0_8, l11_0_9, l11_0_10, l11_0_11, l11_0_12, l11_0_13, l24_0_0, l24_0_1, l25_0_0, l25_0_1, l12_0_1, l12_0_4, l12_0_5, l12_0_6, l12_0_9, l12_0_10, l12_0_11, l12_0_13, l12_0_14, l12_0_15, l12_0_16, l12_0_17, l12_0_18, l12_0_19, l12_0_23, l12_0_24, l12_0_25, l12_0_27, n_a0, n_a1, n_a2, n_a3, n_a4, n_a5, n_a6, n_a7, n_a8, n_a9, n_a10, n_b0, n_b1, n_b2, n_p0, n_p1, n_p2, n_p3, n_p4, n_s0, n_s1, n_s2, n_s3, n_nm, n20_18, n20_19, n20_20, n20_21, n20_44, n20_45, n20_46, n20_47, n20_48, n20_49, n20_83, n20_84, n20_85, n20_86, n20_87, n20_88, n20_89, n20_90, n20_91, n20_92, n20_93, n20_94, n20_95, n20_96, n20_97, n20_98, n21_2, n21_3, n21_4, n21_5, n21_6, n22_6, n22_7, n22_17, n22_18, n22_19, n22_20, n23_0, n24_0, n25_0, r_a0, w_a0, r_a1, w_a1, r_a2, w_a2, r_a3, w_a3, r_a4, w_a4, r_a5, w_a5, r_a6, w_a6, r_a7, w_a7, r_a8, w_a8, r_a9, w_a9, r_a10, w_a10, r_b0, w_b0, r_b1, w_b1, r_b2, w_b2, r_d, w_d, r_c, w_c, r_e, w_e, r_t, w_t, r_f0, w_f0, r_f1, w_f1, r_f2, w_f2, r_f3, w_f3, r_e0, w_e0, r_e1, w_e1, r_e2, w_e2, r_o7, r_o8, r_o9, r_o10, r_o1, r_o5, r_o6, r_o11, r_o12, r_o21, r_o23, r_p0, r_p1, r_p2, r_s0, r_s1, r_s2, r_s3, i3_add1, i3_add, i3_mul, i3_addl, i3_mull, i3_ladd, i3_lmul, i3_div4, i3_le, i3_lt, i3_eq, i3_lel, i3_lle, i3_ltl, i3_llt, i3_eql, i3_leq, i3_nl, i3_0l, i3_nn, n1_lt, n1_le, xi_i3, xin_i3, xi_lit, xin_lit, xb0, xb1, gd_t, nz4, Option.bind_some, gR_emb, gN_emb, gL_emb, ↓reduceIte, if_true, if_false, not_true_eq_false, not_false_eq_true, eq_self, Nat.not_lt_zero, Nat.zero_le, true_or, or_true, false_or, or_false, true_and, and_true, false_and, and_false, Bool.false_and, Bool.false_eq_true]
    | true =>
      obtain ⟨f, hf', rfl⟩ := isFile_ex e c4
      simp (disch := first | assumption | omega) only [l0_7, l0_8, l0_9, l0_10, l0_11, l0_12, l0_13, l0_14, l0_15, l2_0, l2_5, l2_6, l2_7, l2_8, l2_9, l2_12, l2_13, l7_4, l7_5, l7_6, l7_7, l8_0, l8_1, l8_2, l9_1, l9_2, l9_3, l9_4, l4_0_0, l4_0_1, l4_0_2, l4_0_3, l3_0_2, l3_0_3, l3_0_4, l3_0_5, l10_0_0, l1_0_1, l1_0_2, l1_0_3, l1_1_1, l1_1_2, l1_1_3, l1_2_1, l1_2_2, l1_2_3, l5_0_0, l5_0_2, l5_0_3, l5_0_4, l11_0_0, l11_0_5, l11_0_6, l11_0_7, l11_0_8, l11_0_9, l11_0_10, l11_0_11, l11_0_12, l11_0_13, l24_0_0, l24_0_1, l25_0_0, l25_0_1, l12_0_1, l12_0_4, l12_0_5, l12_0_6, l12_0_9, l12_0_10, l12_0_11, l12_0_13, l12_0_14, l12_0_15, l12_0_16, l12_0_17, l12_0_18, l12_0_19, l12_0_23, l12_0_24, l12_0_25, l12_0_27, n_a0, n_a1, n_a2, n_a3, n_a4, n_a5, n_a6, n_a7, n_a8, n_a9, n_a10, n_b0, n_b1, n_b2, n_p0, n_p1, n_p2, n_p3, n_p4, n_s0, n_s1, n_s2, n_s3, n_nm, n20_18, n20_19, n20_20, n20_21, n20_44, n20_45, n20_46, n20_47, n20_48, n20_49, n20_83, n20_84, n20_85, n20_86, n20_87, n20_88, n20_89, n20_90, n20_91, n20_92, n20_93, n20_94, n20_95, n20_96, n20_97, n20_98, n21_2, n21_3, n21_4, n21_5, n21_6, n22_6, n22_7, n22_17, n22_18, n22_19, n22_20, n23_0, n24_0, n25_0, r_a0, w_a0, r_a1, w_a1, r_a2, w_a2, r_a3, w_a3, r_a4, w_a4, r_a5, w_a5, r_a6, w_a6, r_a7, w_a7, r_a8, w_a8, r_a9, w_a9, r_a10, w_a10, r_b0, w_b0, r_b1, w_b1, r_b2, w_b2, r_d, w_d, r_c, w_c, r_e, w_e, r_t, w_t, r_f0, w_f0, r_f1, w_f1, r_f2, w_f2, r_f3, w_f3, r_e0, w_e0, r_e1, w_e1, r_e2, w_e2, r_o7, r_o8, r_o9, r_o10, r_o1, r_o5, r_o6, r_o11, r_o12, r_o21, r_o23, r_p0, r_p1, r_p2, r_s0, r_s1, r_s2, r_s3, i3_add1, i3_add, i3_mul, i3_addl, i3_mull, i3_ladd, i3_lmul, i3_div4, i3_le, i3_lt, i3_eq, i3_lel, i3_lle, i3_ltl, i3_llt, i3_eql, i3_leq, i3_nl, i3_0l, i3_nn, n1_lt, n1_le, xi_i3, xin_i3, xi_lit, xin_lit, xb0, xb1, gd_t, nz4, Option.bind_some, gR_emb, gN_emb, gL_emb, ↓reduceIte, if_true, if_false, not_true_eq_false, not_false_eq_true, eq_self, Nat.not_lt_zero, Nat.zero_le, true_or, or_true, false_or, or_false, true_and, and_true, false_and, and_false, Bool.true_eq_false, Bool.true_and]
      by_cases c2 : D 12 f = 0
      · simp (disch := first | assumption | omega) only [l0_7, l0_8, l0_9, l0_10, l0_11, l0_12, l0_13, l0_14, l0_15, l2_0, l2_5, l2_6, l2_7, l2_8, l2_9, l2_12, l2_13, l7_4, l7_5, l7_6, l7_7, l8_0, l8_1, l8_2, l9_1, l9_2, l9_3, l9_4, l4_0_0, l4_0_1, l4_0_2, l4_0_3, l3_0_2, l3_0_3, l3_0_4, l3_0_5, l10_0_0, l1_0_1, l1_0_2, l1_0_3, l1_1_1, l1_1_2, l1_1_3, l1_2_1, l1_2_2, l1_2_3, l5_0_0, l5_0_2, l5_0_3, l5_0_4, l11_0_0, l11_0_5, l11_0_6, l11_0_7, l11_0_8, l11_0_9, l11_0_10, l11_0_11, l11_0_12, l11_0_13, l24_0_0, l24_0_1, l25_0_0, l25_0_1, l12_0_1, l12_0_4, l12_0_5, l12_0_6, l12_0_9, l12_0_10, l12_0_11, l12_0_13, l12_0_14, l12_0_15, l12_0_16, l12_0_17, l12_0_18, l12_0_19, l12_0_23, l12_0_24, l12_0_25, l12_0_27, n_a0, n_a1, n_a2, n_a3, n_a4, n_a5, n_a6, n_a7, n_a8, n_a9, n_a10, n_b0, n_b1, n_b2, n_p0, n_p1, n_p2, n_p3, n_p4, n_s0, n_s1, n_s2, n_s3, n_nm, n20_18, n20_19, n20_20, n20_21, n20_44, n20_45, n20_46, n20_47, n20_48, n20_49, n20_83, n20_84, n20_85, n20_86, n20_87, n20_88, n20_89, n20_90, n20_91, n20_92, n20_93, n20_94, n20_95, n20_96, n20_97, n20_98, n21_2, n21_3, n21_4, n21_5, n21_6, n22_6, n22_7, n22_17, n22_18, n22_19, n22_20, n23_0, n24_0, n25_0, r_a0, w_a0, r_a1, w_a1, r_a2, w_a2, r_a3, w_a3, r_a4, w_a4, r_a5, w_a5, r_a6, w_a6, r_a7, w_a7, r_a8, w_a8, r_a9, w_a9, r_a10, w_a10, r_b0, w_b0, r_b1, w_b1, r_b2, w_b2, r_d, w_d, r_c, w_c, r_e, w_e, r_t, w_t, r_f0, w_f0, r_f1, w_f1, r_f2, w_f2, r_f3, w_f3, r_e0, w_e0, r_e1, w_e1, r_e2, w_e2, r_o7, r_o8, r_o9, r_o10, r_o1, r_o5, r_o6, r_o11, r_o12, r_o21, r_o23, r_p0, r_p1, r_p2, r_s0, r_s1, r_s2, r_s3, i3_add1, i3_add, i3_mul, i3_addl, i3_mull, i3_ladd, i3_lmul, i3_div4, i3_le, i3_lt, i3_eq, i3_lel, i3_lle, i3_ltl, i3_llt, i3_eql, i3_leq, i3_nl, i3_0l, i3_nn, n1_lt, n1_le, xi_i3, xin_i3, xi_lit, xin_lit, xb0, xb1, gd_t, nz4, Option.bind_some, gR_emb, gN_emb, gL_emb, ↓reduceIte, if_true, if_false, not_true_eq_false, not_false_eq_true, eq_self, Nat.not_lt_zero, Nat.zero_le, true_or, or_true, false_or, or_false, true_and, and_true, false_and, and_false, c2, decide_true, Bool.true_and, e_mappedBits h hd (show 100 < fu by omega) (show f < 5 by omega)]
        have hb := bitsN_lt D f
        by_cases c3 : bitsN D f = 0
        · simp (disch := first | assumption | omega) only [l0_7, l0_8, l0_9, l0_10, l0_11, l0_12, l0_13, l0_14, l0_15, l2_0, l2_5, l2_6, l2_7, l2_8, l2_9, l2_12, l2_13, l7_4, l7_5, l7_6, l7_7, l8_0, l8_1, l8_2, l9_1, l9_2, l9_3, l9_4, l4_0_0, l4_0_1, l4_0_2, l4_0_3, l3_0_2, l3_0_3, l3_0_4, l3_0_5, l10_0_0, l1_0_1, l1_0_2, l1_0_3, l1_1_1, l1_1_2, l1_1_3, l1_2_1, l1_2_2, l1_2_3, l5_0_0, l5_0_2, l5_0_3, l5_0_4, l11_0_0, l11_0_5, l11_0_6, l11_0_7, l11_0_8, l11_0_9, l11_0_10, l11_0_11, l11_0_12, l11_0_13, l24_0_0, l24_0_1, l25_0_0, l25_0_1, l12_0_1, l12_0_4, l12_0_5, l12_0_6, l12_0_9, l12_0_10, l12_0_11, l12_0_13, l12_0_14, l12_0_15, l12_0_16, l12_0_17, l12_0_18, l12_0_19, l12_0_23, l12_0_24, l12_0_25, l12_0_27, n_a0, n_a1, n_a2, n_a3, n_a4, n_a5, n_a6, n_a7, n_a8, n_a9, n_a10, n_b0, n_b1, n_b2, n_p0, n_p1, n_p2, n_p3, n_p4, n_s0, n_s1, n_s2, n_s3, n_nm, n20_18, n20_19, n20_20, n20_21, n20_44, n20_45, n20_46, n20_47, n20_48, n20_49, n20_83, n20_84, n20_85, n20_86, n20_87, n20_88, n20_89, n20_90, n20_91, n20_92, n20_93, n20_94, n20_95, n20_96, n20_97, n20_98, n21_2, n21_3, n21_4, n21_5, n21_6, n22_6, n22_7, n22_17, n22_18, n22_19, n22_20, n23_0, n24_0, n25_0, r_a0, w_a0, r_a1, w_a1, r_a2, w_a2, r_a3, w_a3, r_a4, w_a4, r_a5, w_a5, r_a6, w_a6, r_a7, w_a7, r_a8, w_a8, r_a9, w_a9, r_a10, w_a10, r_b0, w_b0, r_b1, w_b1, r_b2, w_b2, r_d, w_d, r_c, w_c, r_e, w_e, r_t, w_t, r_f0, w_f0, r_f1, w_f1, r_f2, w_f2, r_f3, w_f3, r_e0, w_e0, r_e1, w_e1, r_e2, w_e2, r_o7, r_o8, r_o9, r_o10, r_o1, r_o5, r_o6, r_o11, r_o12, r_o21, r_o23, r_p0, r_p1, r_p2, r_s0, r_s1, r_s2, r_s3, i3_add1, i3_add, i3_mul, i3_addl, i3_mull, i3_ladd, i3_lmul, i3_div4, i3_le, i3_lt, i3_eq, i3_lel, i3_lle, i3_ltl, i3_llt, i3_eql, i3_leq, i3_nl, i3_0l, i3_nn, n1_lt, n1_le, xi_i3, xin_i3, xi_lit, xin_lit, xb0, xb1, gd_t, nz4, Option.bind_some, gR_emb, gN_emb, gL_emb, ↓reduceIte, if_true, if_false, not_true_eq_false, not_false_eq_true, eq_self, Nat.not_lt_zero, Nat.zero_le, true_or, or_true, false_or, or_false, true_and, and_true, false_and, and_false, c3, decide_true, Bool.not_true, Bool.false_eq_true]
        · have hW : Okd d (C 0 0) (C 0 1) (wantsT C R a D).2 := Okd_wants hO
          have e1 := e_collect (M := M) (fu := fu) h hd hW (by omega)
          have hT := firstT2_ok (R := R) (a := a) (nt := decide (d = 2)) hO
          have hL := fun q => firstT2_12 (R := R) (a := a) (nt := decide (d = 2)) (j := 12) (k := f) (by omega) hO q
          have q3 : ¬ (i3 (bitsN D f) = 0) := fun q => c3 ((i3_eq (b := 0) (by omega) (by omega)).mp q)
          simp only [c3, q3, decide_false, Bool.not_false, if_true, not_false_eq_true]
          rw [e_wants h hd ha hC hp hO.1 hf]
          simp only [Option.bind_some, bz_0]
          unfold firstT2 at hT hL ⊢
          cases w : (wantsT C R a D).1 with
          | false =>
            simp only [w, Bool.false_eq_true, if_false, if_true] at hL hT ⊢
            exact e_remB h hd hC hp (by omega) hf' ((hL trivial).trans c2) hT
          | true =>
            simp only [w, Bool.true_eq_false, if_true, if_false] at hL hT ⊢
            rw [e1]
            simp only [Option.bind_some]
            by_cases c5 : (collectT (decide (d = 2)) (wantsT C R a D).2 (C 0 0) (C 0 1)).1 = -2
            · simp only [c5, not_true_eq_false, if_false, decide_true, if_true]
            · simp only [c5, not_false_eq_true, if_true, decide_false, Bool.false_eq_true, if_false] at hL ⊢
              exact e_remB h hd hC hp (by omega) hf' ((hL trivial).trans c2) hT
      · simp (disch := first | assumption | omega) only [l0_7, l0_8, l0_9, l0_10, l0_11, l0_12, l0_13, l0_14, l0_15, l2_0, l2_5, l2_6, l2_7, l2_8, l2_9, l2_12, l2_13, l7_4, l7_5, l7_6, l7_7, l8_0, l8_1, l8_2, l9_1, l9_2, l9_3, l9_4, l4_0_0, l4_0_1, l4_0_2, l4_0_3, l3_0_2, l3_0_3, l3_0_4, l3_0_5, l10_0_0, l1_0_1, l1_0_2, l1_0_3, l1_1_1, l1_1_2, l1_1_3, l1_2_1, l1_2_2, l1_2_3, l5_0_0, l5_0_2, l5_0_3, l5_0_4, l11_0_0, l11_0_5, l11_0_6, l11_0_7, l11_0_8, l11_0_9, l11_0_10, l11_0_11, l11_0_12, l11_0_13, l24_0_0, l24_0_1, l25_0_0, l25_0_1, l12_0_1, l12_0_4, l12_0_5, l12_0_6, l12_0_9, l12_0_10, l12_0_11, l12_0_13, l12_0_14, l12_0_15, l12_0_16, l12_0_17, l12_0_18, l12_0_19, l12_0_23, l12_0_24, l12_0_25, l12_0_27, n_a0, n_a1, n_a2, n_a3, n_a4, n_a5, n_a6, n_a7, n_a8, n_a9, n_a10, n_b0, n_b1, n_b2, n_p0, n_p1, n_p2, n_p3, n_p4, n_s0, n_s1, n_s2, n_s3, n_nm, n20_18, n20_19, n20_20, n20_21, n20_44, n20_45, n20_46, n20_47, n20_48, n20_49, n20_83, n20_84, n20_85, n20_86, n20_87, n20_88, n20_89, n20_90, n20_91, n20_92, n20_93, n20_94, n20_95, n20_96, n20_97, n20_98, n21_2, n21_3, n21_4, n21_5, n21_6, n22_6, n22_7, n22_17, n22_18, n22_19, n22_20, n23_0, n24_0, n25_0, r_a0, w_a0, r_a1, w_a1, r_a2, w_a2, r_a3, w_a3, r_a4, w_a4, r_a5, w_a5, r_a6, w_a6, r_a7, w_a7, r_a8, w_a8, r_a9, w_a9, r_a10, w_a10, r_b0, w_b0, r_b1, w_b1, r_b2, w_b2, r_d, w_d, r_c, w_c, r_e, w_e, r_t, w_t, r_f0, w_f0, r_f1, w_f1, r_f2, w_f2, r_f3, w_f3, r_e0, w_e0, r_e1, w_e1, r_e2, w_e2, r_o7, r_o8, r_o9, r_o10, r_o1, r_o5, r_o6, r_o11, r_o12, r_o21, r_o23, r_p0, r_p1, r_p2, r_s0, r_s1, r_s2, r_s3, i3_add1, i3_add, i3_mul, i3_addl, i3_mull, i3_ladd, i3_lmul, i3_div4, i3_le, i3_lt, i3_eq, i3_lel, i3_lle, i3_ltl, i3_llt, i3_eql, i3_leq, i3_nl, i3_0l, i3_nn, n1_lt, n1_le, xi_i3, xin_i3, xi_lit, xin_lit, xb0, xb1, gd_t, nz4, Option.bind_some, gR_emb, gN_emb, gL_emb, ↓reduceIte, if_true, if_false, not_true_eq_false, not_false_eq_true, eq_self, Nat.not_lt_zero, Nat.zero_le, true_or, or_true, false_or, or_false, true_and, and_true, false_and, and_false, c2, decide_false, Bool.false_and, Bool.false_eq_true]
end
