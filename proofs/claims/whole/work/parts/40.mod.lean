/-! ===== the reference's state ===== -/
def mow (c s : Nat) : Option Nat :=
  if c = 12 then (if s = 0 then some 0 else none) else if c = 20 then (if 87 ≤ s ∧ s < 99 then some s else none) else if c = 22 then (if s = 20 then some 1 else none) else none
theorem mow_at {c s j : Nat} (h : mow c s = some j) : (j = 0 ∧ c = 12 ∧ s = 0) ∨ (87 ≤ j ∧ j < 99 ∧ c = 20 ∧ s = j) ∨ (j = 1 ∧ c = 22 ∧ s = 20) := by
  unfold mow at h
  by_cases c12 : c = 12
  · rw [if_pos c12] at h
    by_cases s0 : s = 0
    · rw [if_pos s0] at h; injection h with h; omega
    · rw [if_neg s0] at h; cases h
  rw [if_neg c12] at h
  by_cases c20 : c = 20
  · rw [if_pos c20] at h
    by_cases s0 : 87 ≤ s ∧ s < 99
    · rw [if_pos s0] at h; injection h with h; omega
    · rw [if_neg s0] at h; cases h
  rw [if_neg c20] at h
  by_cases c22 : c = 22
  · rw [if_pos c22] at h
    by_cases s0 : s = 20
    · rw [if_pos s0] at h; injection h with h; omega
    · rw [if_neg s0] at h; cases h
  rw [if_neg c22] at h; cases h
/-- the reference's ints: 0 its own fields, 1 which marks there are, 87 .. 98 its rows -/
def mmb (X : xT) (M : xM) : xM := (fun c s k => emf (mow c s) X k (M.1 c s k), M.2)
theorem mI_own {c s j k : Nat} {X : xT} {M : xM} (h : mow c s = some j) : gI (mmb X M) c s k = X j k := by show emf (mow c s) X k (M.1 c s k) = _; rw [h]; rfl
theorem mI_not {c s k : Nat} {X : xT} {M : xM} (h : mow c s = none) : gI (mmb X M) c s k = gI M c s k := by show emf (mow c s) X k (M.1 c s k) = _; rw [h]; rfl
theorem mS_own {c s j k : Nat} {X : xT} {M : xM} {v : Int32} (h : mow c s = some j) : sI (mmb X M) c s k v = mmb (up X j k v) M := by
  refine Prod.ext ?_ rfl
  funext c' s' k'
  show (if c' = c ∧ s' = s ∧ k' = k then v else emf (mow c' s') X k' (M.1 c' s' k')) = emf (mow c' s') (up X j k v) k' (M.1 c' s' k')
  cases e : mow c' s' with
  | none =>
    have : ¬ (c' = c ∧ s' = s ∧ k' = k) := fun q => by rw [q.1, q.2.1, h] at e; cases e
    rw [if_neg this]; rfl
  | some j' =>
    show (if c' = c ∧ s' = s ∧ k' = k then v else X j' k') = if j' = j ∧ k' = k then v else X j' k'
    have a := mow_at h
    have b := mow_at e
    by_cases q : j' = j
    · have : (c' = c ∧ s' = s) := by omega
      rw [this.1, this.2, q]; simp
    · have : ¬ (c' = c ∧ s' = s ∧ k' = k) := fun r => by rw [r.1, r.2.1, h] at e; injection e with e; exact q e.symm
      rw [if_neg this, if_neg (fun r => q r.1)]
theorem gR_mmb (X : xT) (M : xM) (c s k : Nat) : gR (mmb X M) c s k = gR M c s k := rfl
theorem gN_mmb (X : xT) (M : xM) (c s : Nat) : gN (mmb X M) c s = gN M c s := rfl
theorem gL_mmb (X : xT) (M : xM) (c s k : Nat) : gL (mmb X M) c s k = gL M c s k := rfl
theorem Lay_mmb {X : xT} {M : xM} (h : Lay M) : Lay (mmb X M) := h
theorem mmb_self (M : xM) : ∃ X, M = mmb X M := ⟨fun j k => if j = 0 then M.1 12 0 k else if j = 1 then M.1 22 20 k else M.1 20 j k, by
  refine Prod.ext ?_ rfl
  funext c s k
  show M.1 c s k = emf (mow c s) (fun j k => if j = 0 then M.1 12 0 k else if j = 1 then M.1 22 20 k else M.1 20 j k) k (M.1 c s k)
  cases e : mow c s with
  | none => rfl
  | some j =>
    rcases mow_at e with ⟨a, b, c⟩ | ⟨a, b, c, d⟩ | ⟨a, b, c⟩
    · subst a; subst b; subst c; rfl
    · subst c; subst d
      show M.1 20 s k = if s = 0 then _ else if s = 1 then _ else M.1 20 s k
      rw [if_neg (by omega), if_neg (by omega)]
    · subst a; subst b; subst c; rfl⟩
section
variable {k : Nat} {X : xT} {M : xM} {v : Int32}
theorem m_0 : gI (mmb X M) 12 0 k = X 0 k := mI_own rfl
theorem m_87 : gI (mmb X M) 20 87 k = X 87 k := mI_own rfl
theorem m_88 : gI (mmb X M) 20 88 k = X 88 k := mI_own rfl
theorem m_89 : gI (mmb X M) 20 89 k = X 89 k := mI_own rfl
theorem m_90 : gI (mmb X M) 20 90 k = X 90 k := mI_own rfl
theorem m_91 : gI (mmb X M) 20 91 k = X 91 k := mI_own rfl
theorem m_92 : gI (mmb X M) 20 92 k = X 92 k := mI_own rfl
theorem m_93 : gI (mmb X M) 20 93 k = X 93 k := mI_own rfl
theorem m_94 : gI (mmb X M) 20 94 k = X 94 k := mI_own rfl
theorem m_95 : gI (mmb X M) 20 95 k = X 95 k := mI_own rfl
theorem m_96 : gI (mmb X M) 20 96 k = X 96 k := mI_own rfl
theorem m_97 : gI (mmb X M) 20 97 k = X 97 k := mI_own rfl
theorem m_98 : gI (mmb X M) 20 98 k = X 98 k := mI_own rfl
theorem m_1 : gI (mmb X M) 22 20 k = X 1 k := mI_own rfl
theorem p_0 : sI (mmb X M) 12 0 k v = mmb (up X 0 k v) M := mS_own rfl
theorem p_87 : sI (mmb X M) 20 87 k v = mmb (up X 87 k v) M := mS_own rfl
theorem p_88 : sI (mmb X M) 20 88 k v = mmb (up X 88 k v) M := mS_own rfl
theorem p_89 : sI (mmb X M) 20 89 k v = mmb (up X 89 k v) M := mS_own rfl
theorem p_90 : sI (mmb X M) 20 90 k v = mmb (up X 90 k v) M := mS_own rfl
theorem p_91 : sI (mmb X M) 20 91 k v = mmb (up X 91 k v) M := mS_own rfl
theorem p_92 : sI (mmb X M) 20 92 k v = mmb (up X 92 k v) M := mS_own rfl
theorem p_93 : sI (mmb X M) 20 93 k v = mmb (up X 93 k v) M := mS_own rfl
theorem p_94 : sI (mmb X M) 20 94 k v = mmb (up X 94 k v) M := mS_own rfl
theorem p_95 : sI (mmb X M) 20 95 k v = mmb (up X 95 k v) M := mS_own rfl
theorem p_96 : sI (mmb X M) 20 96 k v = mmb (up X 96 k v) M := mS_own rfl
theorem p_97 : sI (mmb X M) 20 97 k v = mmb (up X 97 k v) M := mS_own rfl
theorem p_98 : sI (mmb X M) 20 98 k v = mmb (up X 98 k v) M := mS_own rfl
theorem p_1 : sI (mmb X M) 22 20 k v = mmb (up X 1 k v) M := mS_own rfl
end
/-- bounds of a plan -/
def CB (C : xC) : Prop := C 0 0 ≤ 6 ∧ C 0 1 ≤ 6 ∧ C 0 2 ≤ 8 ∧ C 0 3 ≤ 5 ∧ C 0 4 ≤ 1000 ∧ ∀ f, f < C 0 3 → C 1 f < 4 ∧ 1 ≤ C 2 f ∧ C 2 f ≤ 4
/-- the plan as the reference holds it -/
def MCfg (C : xC) (X : xT) : Prop := X 90 0 = i3 (C 0 0) ∧ X 90 1 = i3 (C 0 1) ∧ X 90 2 = i3 (C 0 2) ∧ X 90 3 = i3 (C 0 3) ∧ ∀ f, f < C 0 3 → X 90 (5 + 2 * f) = i3 (C 1 f) ∧ X 90 (5 + 2 * f + 1) = i3 (C 2 f)
def tot (C : xC) : Nat := C 0 0 * C 0 1
def bitsAs (x : Int32) (g : Nat → Int32) : Prop := ∃ o, o < 32 ∧ x = i3 o ∧ ∀ f, f < 5 → g f = i3 (o / 2 ^ f % 2)
/-- the section at b holds what the disk's table holds -/
def Rel (C : xC) (b : Nat) (D X : xT) : Prop :=
  X 95 b = D 14 10 ∧ X 95 (b + 1) = D 15 4 ∧ X 95 (b + 2) = D 14 1 ∧ X 95 (b + 3) = D 14 2 ∧ bitsAs (X 95 (b + 4)) (D 11) ∧ bitsAs (X 95 (b + 5)) (D 12) ∧ X 95 (b + 7) = D 14 3 ∧
  (∀ k, k < 6 → X 95 (b + 8 + k) = D 0 k) ∧ (∀ k, k < 20 → X 95 (b + 14 + k) = D 9 k) ∧
  ∀ s, s < tot C → X 95 (b + 34 + 13 * s) = D 2 s ∧
    (D 2 s ≠ 0 → X 95 (b + 34 + 13 * s + 1) = D 3 s ∧ X 95 (b + 34 + 13 * s + 2) = D 4 s ∧ X 95 (b + 34 + 13 * s + 3) = D 5 s ∧ X 95 (b + 34 + 13 * s + 4) = D 6 s) ∧
    (D 2 s = 3 → ∀ n, n < 4 → i3 n < D 6 s → X 95 (b + 34 + 13 * s + (5 + 2 * n)) = D 7 (s * 4 + n) ∧ X 95 (b + 34 + 13 * s + (6 + 2 * n)) = D 8 (s * 4 + n))
theorem tot36 {C : xC} (h : CB C) : tot C ≤ 36 := mul36 h.1 h.2.1
section
variable {M : xM} {D X : xT} {C : xC} {fu b : Nat}
theorem t_files (h : Lay M) (hC : MCfg C X) : F_X12_files fu 0 (mmb X M) = some (i3 (C 0 3), mmb X M) := by
  unfold F_X12_files
  simp (disch := first | assumption | omega) only [l12_0_1, l12_0_4, l12_0_5, l12_0_6, l12_0_9, l12_0_10, l12_0_11, l12_0_13, l12_0_14, l12_0_15, l12_0_16, l12_0_17, l12_0_18, l12_0_19, l12_0_23, l12_0_24, l12_0_25, l12_0_27, n20_83, n20_84, n20_85, n20_86, n20_87, n20_88, n20_89, n20_90, n20_91, n20_92, n20_93, n20_94, n20_95, n20_96, n20_97, n20_98, n21_2, n21_3, n21_4, n21_5, n21_6, n22_20, m_0, m_1, m_87, m_88, m_89, m_90, m_91, m_92, m_93, m_94, m_95, m_96, m_97, m_98, p_0, p_1, p_87, p_88, p_89, p_90, p_91, p_92, p_93, p_94, p_95, p_96, p_97, p_98, gR_mmb, gN_mmb, gL_mmb, i3_add1, i3_add, i3_mul, i3_addl, i3_mull, i3_ladd, i3_lmul, i3_div4, i3_le, i3_lt, i3_eq, i3_lel, i3_lle, i3_ltl, i3_llt, i3_eql, i3_leq, i3_nl, i3_0l, i3_nn, n1_lt, n1_le, xi_i3, xin_i3, xi_lit, xin_lit, xb0, xb1, gd_t, nz4, Option.bind_some, gR_emb, gN_emb, gL_emb, ↓reduceIte, if_true, if_false, not_true_eq_false, not_false_eq_true, eq_self, Nat.not_lt_zero, Nat.zero_le, true_or, or_true, false_or, or_false, true_and, and_true, false_and, and_false, hC.2.2.2.1]
theorem t_blocks (h : Lay M) (hC : MCfg C X) : F_X12_blocks fu 0 (mmb X M) = some (i3 (C 0 0), mmb X M) := by
  unfold F_X12_blocks
  simp (disch := first | assumption | omega) only [l12_0_1, l12_0_4, l12_0_5, l12_0_6, l12_0_9, l12_0_10, l12_0_11, l12_0_13, l12_0_14, l12_0_15, l12_0_16, l12_0_17, l12_0_18, l12_0_19, l12_0_23, l12_0_24, l12_0_25, l12_0_27, n20_83, n20_84, n20_85, n20_86, n20_87, n20_88, n20_89, n20_90, n20_91, n20_92, n20_93, n20_94, n20_95, n20_96, n20_97, n20_98, n21_2, n21_3, n21_4, n21_5, n21_6, n22_20, m_0, m_1, m_87, m_88, m_89, m_90, m_91, m_92, m_93, m_94, m_95, m_96, m_97, m_98, p_0, p_1, p_87, p_88, p_89, p_90, p_91, p_92, p_93, p_94, p_95, p_96, p_97, p_98, gR_mmb, gN_mmb, gL_mmb, i3_add1, i3_add, i3_mul, i3_addl, i3_mull, i3_ladd, i3_lmul, i3_div4, i3_le, i3_lt, i3_eq, i3_lel, i3_lle, i3_ltl, i3_llt, i3_eql, i3_leq, i3_nl, i3_0l, i3_nn, n1_lt, n1_le, xi_i3, xin_i3, xi_lit, xin_lit, xb0, xb1, gd_t, nz4, Option.bind_some, gR_emb, gN_emb, gL_emb, ↓reduceIte, if_true, if_false, not_true_eq_false, not_false_eq_true, eq_self, Nat.not_lt_zero, Nat.zero_le, true_or, or_true, false_or, or_false, true_and, and_true, false_and, and_false, hC.1]
theorem t_wide (h : Lay M) (hC : MCfg C X) : F_X12_wide fu 0 (mmb X M) = some (i3 (C 0 1), mmb X M) := by
  unfold F_X12_wide
  simp (disch := first | assumption | omega) only [l12_0_1, l12_0_4, l12_0_5, l12_0_6, l12_0_9, l12_0_10, l12_0_11, l12_0_13, l12_0_14, l12_0_15, l12_0_16, l12_0_17, l12_0_18, l12_0_19, l12_0_23, l12_0_24, l12_0_25, l12_0_27, n20_83, n20_84, n20_85, n20_86, n20_87, n20_88, n20_89, n20_90, n20_91, n20_92, n20_93, n20_94, n20_95, n20_96, n20_97, n20_98, n21_2, n21_3, n21_4, n21_5, n21_6, n22_20, m_0, m_1, m_87, m_88, m_89, m_90, m_91, m_92, m_93, m_94, m_95, m_96, m_97, m_98, p_0, p_1, p_87, p_88, p_89, p_90, p_91, p_92, p_93, p_94, p_95, p_96, p_97, p_98, gR_mmb, gN_mmb, gL_mmb, i3_add1, i3_add, i3_mul, i3_addl, i3_mull, i3_ladd, i3_lmul, i3_div4, i3_le, i3_lt, i3_eq, i3_lel, i3_lle, i3_ltl, i3_llt, i3_eql, i3_leq, i3_nl, i3_0l, i3_nn, n1_lt, n1_le, xi_i3, xin_i3, xi_lit, xin_lit, xb0, xb1, gd_t, nz4, Option.bind_some, gR_emb, gN_emb, gL_emb, ↓reduceIte, if_true, if_false, not_true_eq_false, not_false_eq_true, eq_self, Nat.not_lt_zero, Nat.zero_le, true_or, or_true, false_or, or_false, true_and, and_true, false_and, and_false, hC.2.1]
theorem t_all (h : Lay M) (hC : MCfg C X) : F_X12_allSlots fu 0 (mmb X M) = some (i3 (tot C), mmb X M) := by
  unfold F_X12_allSlots
  rw [t_blocks h hC, Option.bind_some, t_wide h hC, Option.bind_some, i3_mul]; rfl
theorem t_isFile (h : Lay M) (hC : MCfg C X) (hB : CB C) {x : Int32} : F_X12_isFile fu 0 x (mmb X M) = some (bz (isFileB C x), mmb X M) := by
  unfold F_X12_isFile isFileB
  rw [t_files h hC]
  by_cases h1 : x < 0
  · simp [h1, bz, gd_t, xb0]
  · by_cases h2 : i3 (C 0 3) ≤ x <;> simp [h1, h2, bz, gd_t, xb0, xb1]
theorem t_kindOf (h : Lay M) (hC : MCfg C X) (hB : CB C) {f : Nat} (hf : f < C 0 3) : F_X12_kindOf fu 0 (i3 f) (mmb X M) = some (i3 (C 1 f), mmb X M) := by
  have := hB.2.2.2.1
  have e := (hC.2.2.2.2 f hf).1
  unfold F_X12_kindOf
  simp (disch := first | assumption | omega) only [l12_0_1, l12_0_4, l12_0_5, l12_0_6, l12_0_9, l12_0_10, l12_0_11, l12_0_13, l12_0_14, l12_0_15, l12_0_16, l12_0_17, l12_0_18, l12_0_19, l12_0_23, l12_0_24, l12_0_25, l12_0_27, n20_83, n20_84, n20_85, n20_86, n20_87, n20_88, n20_89, n20_90, n20_91, n20_92, n20_93, n20_94, n20_95, n20_96, n20_97, n20_98, n21_2, n21_3, n21_4, n21_5, n21_6, n22_20, m_0, m_1, m_87, m_88, m_89, m_90, m_91, m_92, m_93, m_94, m_95, m_96, m_97, m_98, p_0, p_1, p_87, p_88, p_89, p_90, p_91, p_92, p_93, p_94, p_95, p_96, p_97, p_98, gR_mmb, gN_mmb, gL_mmb, i3_add1, i3_add, i3_mul, i3_addl, i3_mull, i3_ladd, i3_lmul, i3_div4, i3_le, i3_lt, i3_eq, i3_lel, i3_lle, i3_ltl, i3_llt, i3_eql, i3_leq, i3_nl, i3_0l, i3_nn, n1_lt, n1_le, xi_i3, xin_i3, xi_lit, xin_lit, xb0, xb1, gd_t, nz4, Option.bind_some, gR_emb, gN_emb, gL_emb, ↓reduceIte, if_true, if_false, not_true_eq_false, not_false_eq_true, eq_self, Nat.not_lt_zero, Nat.zero_le, true_or, or_true, false_or, or_false, true_and, and_true, false_and, and_false, e]
theorem t_pagesOf (h : Lay M) (hC : MCfg C X) (hB : CB C) {f : Nat} (hf : f < C 0 3) : F_X12_pagesOf fu 0 (i3 f) (mmb X M) = some (i3 (C 2 f), mmb X M) := by
  have := hB.2.2.2.1
  have e := (hC.2.2.2.2 f hf).2
  unfold F_X12_pagesOf
  simp (disch := first | assumption | omega) only [l12_0_1, l12_0_4, l12_0_5, l12_0_6, l12_0_9, l12_0_10, l12_0_11, l12_0_13, l12_0_14, l12_0_15, l12_0_16, l12_0_17, l12_0_18, l12_0_19, l12_0_23, l12_0_24, l12_0_25, l12_0_27, n20_83, n20_84, n20_85, n20_86, n20_87, n20_88, n20_89, n20_90, n20_91, n20_92, n20_93, n20_94, n20_95, n20_96, n20_97, n20_98, n21_2, n21_3, n21_4, n21_5, n21_6, n22_20, m_0, m_1, m_87, m_88, m_89, m_90, m_91, m_92, m_93, m_94, m_95, m_96, m_97, m_98, p_0, p_1, p_87, p_88, p_89, p_90, p_91, p_92, p_93, p_94, p_95, p_96, p_97, p_98, gR_mmb, gN_mmb, gL_mmb, i3_add1, i3_add, i3_mul, i3_addl, i3_mull, i3_ladd, i3_lmul, i3_div4, i3_le, i3_lt, i3_eq, i3_lel, i3_lle, i3_ltl, i3_llt, i3_eql, i3_leq, i3_nl, i3_0l, i3_nn, n1_lt, n1_le, xi_i3, xin_i3, xi_lit, xin_lit, xb0, xb1, gd_t, nz4, Option.bind_some, gR_emb, gN_emb, gL_emb, ↓reduceIte, if_true, if_false, not_true_eq_false, not_false_eq_true, eq_self, Nat.not_lt_zero, Nat.zero_le, true_or, or_true, false_or, or_false, true_and, and_true, false_and, and_false, e]
theorem t_isPage (h : Lay M) (hC : MCfg C X) (hB : CB C) {x y : Int32} : F_X12_isPage fu 0 x y (mmb X M) = some (bz (isPageB C x y), mmb X M) := by
  unfold F_X12_isPage isPageB
  rw [t_isFile h hC hB, Option.bind_some]
  cases e : isFileB C x with
  | false => simp [bz, gd_t, xb0]
  | true =>
    obtain ⟨f, hf, rfl⟩ := isFile_ex e hB.2.2.2.1
    have := hB.2.2.2.1
    rw [t_pagesOf h hC hB hf]
    rw [xi_i3 (by omega)]
    by_cases h1 : y < 0
    · simp [h1, bz, gd_t, xb0]
    · by_cases h2 : i3 (C 2 f) ≤ y <;> simp [h1, h2, bz, gd_t, xb0, xb1]
theorem t_slotAt {s : Nat} : F_X12_slotAt fu (i3 b) (i3 s) M = some (i3 (b + 34 + 13 * s), M) := by
  unfold F_X12_slotAt
  rw [show (34 : Int32) = i3 34 from rfl, show (13 : Int32) = i3 13 from rfl, i3_add, i3_mul, i3_add]
theorem t_typeOf (h : Lay M) (hb : b ≤ 2140) (hB : CB C) (hR : Rel C b D X) {s : Nat} (hs : s < tot C) : F_X12_typeOf fu 0 (i3 b) (i3 s) (mmb X M) = some (D 2 s, mmb X M) := by
  have h36 := tot36 hB
  have e := (hR.2.2.2.2.2.2.2.2.2 s hs).1
  unfold F_X12_typeOf
  simp (disch := first | assumption | omega) only [l12_0_1, l12_0_4, l12_0_5, l12_0_6, l12_0_9, l12_0_10, l12_0_11, l12_0_13, l12_0_14, l12_0_15, l12_0_16, l12_0_17, l12_0_18, l12_0_19, l12_0_23, l12_0_24, l12_0_25, l12_0_27, n20_83, n20_84, n20_85, n20_86, n20_87, n20_88, n20_89, n20_90, n20_91, n20_92, n20_93, n20_94, n20_95, n20_96, n20_97, n20_98, n21_2, n21_3, n21_4, n21_5, n21_6, n22_20, m_0, m_1, m_87, m_88, m_89, m_90, m_91, m_92, m_93, m_94, m_95, m_96, m_97, m_98, p_0, p_1, p_87, p_88, p_89, p_90, p_91, p_92, p_93, p_94, p_95, p_96, p_97, p_98, gR_mmb, gN_mmb, gL_mmb, i3_add1, i3_add, i3_mul, i3_addl, i3_mull, i3_ladd, i3_lmul, i3_div4, i3_le, i3_lt, i3_eq, i3_lel, i3_lle, i3_ltl, i3_llt, i3_eql, i3_leq, i3_nl, i3_0l, i3_nn, n1_lt, n1_le, xi_i3, xin_i3, xi_lit, xin_lit, xb0, xb1, gd_t, nz4, Option.bind_some, gR_emb, gN_emb, gL_emb, ↓reduceIte, if_true, if_false, not_true_eq_false, not_false_eq_true, eq_self, Nat.not_lt_zero, Nat.zero_le, true_or, or_true, false_or, or_false, true_and, and_true, false_and, and_false, t_slotAt, e]
theorem t_numberOf (h : Lay M) (hb : b ≤ 2140) (hB : CB C) (hR : Rel C b D X) {s : Nat} (hs : s < tot C) (hk : D 2 s ≠ 0) : F_X12_numberOf fu 0 (i3 b) (i3 s) (mmb X M) = some (D 3 s, mmb X M) := by
  have h36 := tot36 hB
  have e := ((hR.2.2.2.2.2.2.2.2.2 s hs).2.1 hk).1
  unfold F_X12_numberOf
  simp (disch := first | assumption | omega) only [l12_0_1, l12_0_4, l12_0_5, l12_0_6, l12_0_9, l12_0_10, l12_0_11, l12_0_13, l12_0_14, l12_0_15, l12_0_16, l12_0_17, l12_0_18, l12_0_19, l12_0_23, l12_0_24, l12_0_25, l12_0_27, n20_83, n20_84, n20_85, n20_86, n20_87, n20_88, n20_89, n20_90, n20_91, n20_92, n20_93, n20_94, n20_95, n20_96, n20_97, n20_98, n21_2, n21_3, n21_4, n21_5, n21_6, n22_20, m_0, m_1, m_87, m_88, m_89, m_90, m_91, m_92, m_93, m_94, m_95, m_96, m_97, m_98, p_0, p_1, p_87, p_88, p_89, p_90, p_91, p_92, p_93, p_94, p_95, p_96, p_97, p_98, gR_mmb, gN_mmb, gL_mmb, i3_add1, i3_add, i3_mul, i3_addl, i3_mull, i3_ladd, i3_lmul, i3_div4, i3_le, i3_lt, i3_eq, i3_lel, i3_lle, i3_ltl, i3_llt, i3_eql, i3_leq, i3_nl, i3_0l, i3_nn, n1_lt, n1_le, xi_i3, xin_i3, xi_lit, xin_lit, xb0, xb1, gd_t, nz4, Option.bind_some, gR_emb, gN_emb, gL_emb, ↓reduceIte, if_true, if_false, not_true_eq_false, not_false_eq_true, eq_self, Nat.not_lt_zero, Nat.zero_le, true_or, or_true, false_or, or_false, true_and, and_true, false_and, and_false, t_slotAt, e]
theorem bit_dec : ∀ o : Fin 32, ∀ f : Fin 5, ((i3 o >>> (i3 f &&& 31)) &&& 1) = i3 (o / 2 ^ (f : Nat) % 2) := by decide +kernel
theorem bit_rd {x : Int32} {g : Nat → Int32} (h : bitsAs x g) {f : Nat} (hf : f < 5) : ((x >>> (i3 f &&& 31)) &&& 1) = g f := by
  obtain ⟨o, ho, rfl, e⟩ := h
  rw [e f hf]
  exact bit_dec ⟨o, ho⟩ ⟨f, hf⟩
theorem bit_01 {x : Int32} {g : Nat → Int32} (h : bitsAs x g) {f : Nat} (hf : f < 5) : g f = 0 ∨ g f = 1 := by
  obtain ⟨o, ho, rfl, e⟩ := h
  rw [e f hf]
  rcases Nat.mod_two_eq_zero_or_one (o / 2 ^ f) with q | q <;> rw [q]
  · exact Or.inl rfl
  · exact Or.inr rfl
theorem t_isOrphan (h : Lay M) (hb : b ≤ 2140) (hR : Rel C b D X) {f : Nat} (hf : f < 5) : F_X12_isOrphan fu 0 (i3 b) (i3 f) (mmb X M) = some (D 12 f, mmb X M) := by
  have e := bit_rd hR.2.2.2.2.2.1 hf
  unfold F_X12_isOrphan
  simp (disch := first | assumption | omega) only [l12_0_1, l12_0_4, l12_0_5, l12_0_6, l12_0_9, l12_0_10, l12_0_11, l12_0_13, l12_0_14, l12_0_15, l12_0_16, l12_0_17, l12_0_18, l12_0_19, l12_0_23, l12_0_24, l12_0_25, l12_0_27, n20_83, n20_84, n20_85, n20_86, n20_87, n20_88, n20_89, n20_90, n20_91, n20_92, n20_93, n20_94, n20_95, n20_96, n20_97, n20_98, n21_2, n21_3, n21_4, n21_5, n21_6, n22_20, m_0, m_1, m_87, m_88, m_89, m_90, m_91, m_92, m_93, m_94, m_95, m_96, m_97, m_98, p_0, p_1, p_87, p_88, p_89, p_90, p_91, p_92, p_93, p_94, p_95, p_96, p_97, p_98, gR_mmb, gN_mmb, gL_mmb, i3_add1, i3_add, i3_mul, i3_addl, i3_mull, i3_ladd, i3_lmul, i3_div4, i3_le, i3_lt, i3_eq, i3_lel, i3_lle, i3_ltl, i3_llt, i3_eql, i3_leq, i3_nl, i3_0l, i3_nn, n1_lt, n1_le, xi_i3, xin_i3, xi_lit, xin_lit, xb0, xb1, gd_t, nz4, Option.bind_some, gR_emb, gN_emb, gL_emb, ↓reduceIte, if_true, if_false, not_true_eq_false, not_false_eq_true, eq_self, Nat.not_lt_zero, Nat.zero_le, true_or, or_true, false_or, or_false, true_and, and_true, false_and, and_false, e]
  rcases bit_01 hR.2.2.2.2.2.1 hf with q | q <;> rw [q] <;> rfl
theorem t_isOpen (h : Lay M) (hb : b ≤ 2140) (hR : Rel C b D X) {f : Nat} (hf : f < 5) : F_X12_isOpen fu 0 (i3 b) (i3 f) (mmb X M) = some (D 11 f, mmb X M) := by
  have e := bit_rd hR.2.2.2.2.1 hf
  unfold F_X12_isOpen
  simp (disch := first | assumption | omega) only [l12_0_1, l12_0_4, l12_0_5, l12_0_6, l12_0_9, l12_0_10, l12_0_11, l12_0_13, l12_0_14, l12_0_15, l12_0_16, l12_0_17, l12_0_18, l12_0_19, l12_0_23, l12_0_24, l12_0_25, l12_0_27, n20_83, n20_84, n20_85, n20_86, n20_87, n20_88, n20_89, n20_90, n20_91, n20_92, n20_93, n20_94, n20_95, n20_96, n20_97, n20_98, n21_2, n21_3, n21_4, n21_5, n21_6, n22_20, m_0, m_1, m_87, m_88, m_89, m_90, m_91, m_92, m_93, m_94, m_95, m_96, m_97, m_98, p_0, p_1, p_87, p_88, p_89, p_90, p_91, p_92, p_93, p_94, p_95, p_96, p_97, p_98, gR_mmb, gN_mmb, gL_mmb, i3_add1, i3_add, i3_mul, i3_addl, i3_mull, i3_ladd, i3_lmul, i3_div4, i3_le, i3_lt, i3_eq, i3_lel, i3_lle, i3_ltl, i3_llt, i3_eql, i3_leq, i3_nl, i3_0l, i3_nn, n1_lt, n1_le, xi_i3, xin_i3, xi_lit, xin_lit, xb0, xb1, gd_t, nz4, Option.bind_some, gR_emb, gN_emb, gL_emb, ↓reduceIte, if_true, if_false, not_true_eq_false, not_false_eq_true, eq_self, Nat.not_lt_zero, Nat.zero_le, true_or, or_true, false_or, or_false, true_and, and_true, false_and, and_false, e]
  rcases bit_01 hR.2.2.2.2.1 hf with q | q <;> rw [q] <;> rfl
theorem rel_map (hR : Rel C b D X) {f p : Nat} (hf : f < 5) (hp : p < 4) : X 95 (b + 14 + 4 * f + p) = D 9 (f * 4 + p) := by
  rw [show b + 14 + 4 * f + p = b + 14 + (f * 4 + p) by omega]
  exact hR.2.2.2.2.2.2.2.2.1 _ (by omega)
theorem t_mapOf (h : Lay M) (hb : b ≤ 2140) (hR : Rel C b D X) {f p : Nat} (hf : f < 5) (hp : p < 4) : F_X12_mapOf fu 0 (i3 b) (i3 f) (i3 p) (mmb X M) = some (D 9 (f * 4 + p), mmb X M) := by
  unfold F_X12_mapOf
  simp (disch := first | assumption | omega) only [l12_0_1, l12_0_4, l12_0_5, l12_0_6, l12_0_9, l12_0_10, l12_0_11, l12_0_13, l12_0_14, l12_0_15, l12_0_16, l12_0_17, l12_0_18, l12_0_19, l12_0_23, l12_0_24, l12_0_25, l12_0_27, n20_83, n20_84, n20_85, n20_86, n20_87, n20_88, n20_89, n20_90, n20_91, n20_92, n20_93, n20_94, n20_95, n20_96, n20_97, n20_98, n21_2, n21_3, n21_4, n21_5, n21_6, n22_20, m_0, m_1, m_87, m_88, m_89, m_90, m_91, m_92, m_93, m_94, m_95, m_96, m_97, m_98, p_0, p_1, p_87, p_88, p_89, p_90, p_91, p_92, p_93, p_94, p_95, p_96, p_97, p_98, gR_mmb, gN_mmb, gL_mmb, i3_add1, i3_add, i3_mul, i3_addl, i3_mull, i3_ladd, i3_lmul, i3_div4, i3_le, i3_lt, i3_eq, i3_lel, i3_lle, i3_ltl, i3_llt, i3_eql, i3_leq, i3_nl, i3_0l, i3_nn, n1_lt, n1_le, xi_i3, xin_i3, xi_lit, xin_lit, xb0, xb1, gd_t, nz4, Option.bind_some, gR_emb, gN_emb, gL_emb, ↓reduceIte, if_true, if_false, not_true_eq_false, not_false_eq_true, eq_self, Nat.not_lt_zero, Nat.zero_le, true_or, or_true, false_or, or_false, true_and, and_true, false_and, and_false, rel_map hR hf hp]
def eraN (D : xT) (nw k n : Nat) : Nat := cnt (fun i => decide (D 2 (k * nw + i) = 0)) n
theorem t_erasedIn (h : Lay M) (hC : MCfg C X) (hb : b ≤ 2140) (hB : CB C) (hR : Rel C b D X) (hf : 100 < fu) {k : Nat} (hk : k < C 0 0) : F_X12_erasedIn fu 0 (i3 b) (i3 k) (mmb X M) = some (i3 (eraN D (C 0 1) k (C 0 1)), mmb X M) := by
  have h36 := tot36 hB
  have h6 := hB.2.1
  have hBl := blk (nw := C 0 1) hk
  have hS : C 0 1 * (k + 1) = k * C 0 1 + C 0 1 := by rw [Nat.mul_succ, Nat.mul_comm]
  have hS2 : C 0 1 * k = k * C 0 1 := Nat.mul_comm _ _
  have hT : tot C = C 0 0 * C 0 1 := rfl
  unfold F_X12_erasedIn
  rw [t_wide h hC, Option.bind_some]
  simp only [i3_mul, hS2]
  refine lpc (fun n i x => L_X12_erasedIn_10 fu n 0 (i3 b) (i3 k) x (i3 (k * C 0 1 + i)) (mmb X M)) (fun i => i3 (eraN D (C 0 1) k i)) (C 0 1) _ ?_ ?_ fu 0 (by omega) (by omega)
  · intro n i hi
    show L_X12_erasedIn_10 fu (n + 1) 0 (i3 b) (i3 k) (i3 (eraN D (C 0 1) k i)) (i3 (k * C 0 1 + i)) (mmb X M) = L_X12_erasedIn_10 fu n 0 (i3 b) (i3 k) (i3 (eraN D (C 0 1) k (i + 1))) (i3 (k * C 0 1 + i + 1)) (mmb X M)
    conv => lhs; unfold L_X12_erasedIn_10
    rw [t_wide h hC, Option.bind_some]
    simp only [i3_add1, i3_mul, hS]
    rw [if_neg (by rw [i3_le (by omega) (by omega)]; omega), t_typeOf h hb hB hR (by omega), Option.bind_some]
    unfold eraN
    rw [cnt_s]
    by_cases c : D 2 (k * C 0 1 + i) = 0
    · simp [c, i3_add1]
    · simp [c]
  · intro n
    show L_X12_erasedIn_10 fu (n + 1) 0 (i3 b) (i3 k) (i3 (eraN D (C 0 1) k (C 0 1))) (i3 (k * C 0 1 + C 0 1)) (mmb X M) = _
    conv => lhs; unfold L_X12_erasedIn_10
    rw [t_wide h hC, Option.bind_some]
    simp only [i3_add1, i3_mul, hS, Int32.le_refl, if_true]
end
