/-! ===== what is seen, in the reference ===== -/
/-- clue i is not so -/
def badB (A : Nat → Nat) (B S : Nat → Int32) (g : Nat → Int32) (i : Nat) : Bool := ! (decide (g (A i) = B i) == decide (S i = 1))
/-- the first k clues are so -/
def sfB (A : Nat → Nat) (B S : Nat → Int32) (g : Nat → Int32) : Nat → Bool
  | 0 => true
  | k + 1 => sfB A B S g k && ! badB A B S g k
/-- the clues as the reference holds them -/
def SeenX (m : Nat) (A : Nat → Nat) (B S : Nat → Int32) (q : Nat) (X : xT) : Prop := m ≤ 8 ∧ X 95 (q + 502) = i3 m ∧ ∀ i, i < m → ∃ f p, f < 5 ∧ p < 4 ∧ A i = f * 4 + p ∧ X 95 (q + 503 + 4 * i) = i3 f ∧ X 95 (q + 503 + 4 * i + 1) = i3 p ∧ X 95 (q + 503 + 4 * i + 2) = B i ∧ X 95 (q + 503 + 4 * i + 3) = S i ∧ (S i = 0 ∨ S i = 1)
section
variable {M : xM} {D E X : xT} {C : xC} {R B S g : Nat → Int32} {fu n m i j o p q a c k l s x K P : Nat} {W A : Nat → Nat} {V : Nat → Nat → Int32} {kk : Nat → Int32 → Int32 → xM → Option (Int32 × xM)}
theorem sf_bz : bz (sfB A B S g (k + 1)) = if sfB A B S g k = true then bz (! badB A B S g k) else 0 := by
  show bz (sfB A B S g k && ! badB A B S g k) = _
  cases sfB A B S g k <;> rfl
/-- what a page says behind put c, read out of its end -/
theorem t_endSays (h : Lay M) (hB : CB C) (hn : n ≤ 24) (hE : InE (startT C D) 0 0) (hr : Ran C R a n W V D X M) (hc : 1 ≤ c) (hcP : c ≤ wkP C R a W V D n) (hp : p < 20) :
    F_X12_saysIn fu (some 5) (i3 (3 * c)) (i3 p) (mmb X M) = some (NS (wkN C R a W V D n) (c - 1) p, mmb X M) := by
  have := (t_afterIn (fu := fu) h hB hn hE hr hc hp).1 hcP
  unfold afterN at this
  rw [if_pos hcP] at this
  exact this
theorem t_isAsSeen (h : Lay M) (hB : CB C) (hn : n ≤ 24) (hE : InE (startT C D) 0 0) (hr : Ran C R a n W V D X M) (hS : SeenX m A B S 0 X) (hc : 1 ≤ c) (hcP : c ≤ wkP C R a W V D n) (hf : 1100 < fu) :
    F_X12_isAsSeen fu 0 (i3 c) (mmb X M) = some (bz (sfB A B S (NS (wkN C R a W V D n) (c - 1)) m), mmb X M) := by
  obtain ⟨hPl, -⟩ := wkP_le (R := R) (a := a) (W := W) (V := V) hB hn hE
  obtain ⟨hm, e0, hcl⟩ := hS
  rw [Nat.zero_add] at e0
  unfold F_X12_isAsSeen
  refine lpc (fun l i y => L_X12_isAsSeen_4 fu l 0 (i3 c) y (i3 i) (mmb X M)) (fun i => bz (sfB A B S (NS (wkN C R a W V D n) (c - 1)) i)) m _ ?_ ?_ fu 0 (by omega) (by omega)
  · intro l i hi
    show L_X12_isAsSeen_4 fu (l + 1) 0 (i3 c) (bz (sfB A B S (NS (wkN C R a W V D n) (c - 1)) i)) (i3 i) (mmb X M) = L_X12_isAsSeen_4 fu l 0 (i3 c) (bz (sfB A B S (NS (wkN C R a W V D n) (c - 1)) (i + 1))) (i3 (i + 1)) (mmb X M)
    obtain ⟨f, p, hf5, hp4, eA, x0, x1, x2, x3, x4⟩ := hcl i hi
    rw [Nat.zero_add] at x0 x1 x2 x3
    have es := t_endSays (fu := fu) (p := f * 4 + p) h hB hn hE hr hc hcP (by omega)
    rw [sf_bz]
    conv => lhs; unfold L_X12_isAsSeen_4
    simp (disch := first | assumption | omega) only [l12_0_1, l12_0_4, l12_0_5, l12_0_6, l12_0_9, l12_0_10, l12_0_11, l12_0_13, l12_0_14, l12_0_15, l12_0_16, l12_0_17, l12_0_18, l12_0_19, l12_0_23, l12_0_24, l12_0_25, l12_0_27, n20_83, n20_84, n20_85, n20_86, n20_87, n20_88, n20_89, n20_90, n20_91, n20_92, n20_93, n20_94, n20_95, n20_96, n20_97, n20_98, n21_2, n21_3, n21_4, n21_5, n21_6, n22_20, m_0, m_1, m_87, m_88, m_89, m_90, m_91, m_92, m_93, m_94, m_95, m_96, m_97, m_98, p_0, p_1, p_87, p_88, p_89, p_90, p_91, p_92, p_93, p_94, p_95, p_96, p_97, p_98, gR_mmb, gN_mmb, gL_mmb, i3_add1, i3_add, i3_mul, i3_addl, i3_mull, i3_ladd, i3_lmul, i3_div4, i3_le, i3_lt, i3_eq, i3_lel, i3_lle, i3_ltl, i3_llt, i3_eql, i3_leq, i3_nl, i3_0l, i3_nn, n1_lt, n1_le, xi_i3, xin_i3, xi_lit, xin_lit, xb0, xb1, gd_t, nz4, Option.bind_some, gR_emb, gN_emb, gL_emb, ↓reduceIte, if_true, if_false, not_true_eq_false, not_false_eq_true, eq_self, Nat.not_lt_zero, Nat.zero_le, true_or, or_true, false_or, or_false, true_and, and_true, false_and, and_false, e0, x0, x1, bz_0]
    rw [if_neg (by omega)]
    cases eb : sfB A B S (NS (wkN C R a W V D n) (c - 1)) i with
    | false => rfl
    | true =>
      rw [if_neg (by decide), if_pos rfl, show 4 * f + p = f * 4 + p by omega, es]
      unfold J_X12_isAsSeen_75 J_X12_isAsSeen_93
      simp (disch := first | assumption | omega) only [l12_0_1, l12_0_4, l12_0_5, l12_0_6, l12_0_9, l12_0_10, l12_0_11, l12_0_13, l12_0_14, l12_0_15, l12_0_16, l12_0_17, l12_0_18, l12_0_19, l12_0_23, l12_0_24, l12_0_25, l12_0_27, n20_83, n20_84, n20_85, n20_86, n20_87, n20_88, n20_89, n20_90, n20_91, n20_92, n20_93, n20_94, n20_95, n20_96, n20_97, n20_98, n21_2, n21_3, n21_4, n21_5, n21_6, n22_20, m_0, m_1, m_87, m_88, m_89, m_90, m_91, m_92, m_93, m_94, m_95, m_96, m_97, m_98, p_0, p_1, p_87, p_88, p_89, p_90, p_91, p_92, p_93, p_94, p_95, p_96, p_97, p_98, gR_mmb, gN_mmb, gL_mmb, i3_add1, i3_add, i3_mul, i3_addl, i3_mull, i3_ladd, i3_lmul, i3_div4, i3_le, i3_lt, i3_eq, i3_lel, i3_lle, i3_ltl, i3_llt, i3_eql, i3_leq, i3_nl, i3_0l, i3_nn, n1_lt, n1_le, xi_i3, xin_i3, xi_lit, xin_lit, xb0, xb1, gd_t, nz4, Option.bind_some, gR_emb, gN_emb, gL_emb, ↓reduceIte, if_true, if_false, not_true_eq_false, not_false_eq_true, eq_self, Nat.not_lt_zero, Nat.zero_le, true_or, or_true, false_or, or_false, true_and, and_true, false_and, and_false, x2, x3]
      unfold badB
      rw [eA]
      by_cases c1 : NS (wkN C R a W V D n) (c - 1) (f * 4 + p) = B i
      · rcases x4 with x4 | x4
        · rw [x4, decide_eq_true c1]; simp [bz, c1]
        · rw [x4, decide_eq_true c1]; simp [bz, c1]
      · rcases x4 with x4 | x4
        · rw [x4, decide_eq_false c1]; simp [bz, c1]
        · rw [x4, decide_eq_false c1]; simp [bz, c1]
  · intro l
    show L_X12_isAsSeen_4 fu (l + 1) 0 (i3 c) (bz (sfB A B S (NS (wkN C R a W V D n) (c - 1)) m)) (i3 m) (mmb X M) = _
    conv => lhs; unfold L_X12_isAsSeen_4
    simp (disch := first | assumption | omega) only [l12_0_1, l12_0_4, l12_0_5, l12_0_6, l12_0_9, l12_0_10, l12_0_11, l12_0_13, l12_0_14, l12_0_15, l12_0_16, l12_0_17, l12_0_18, l12_0_19, l12_0_23, l12_0_24, l12_0_25, l12_0_27, n20_83, n20_84, n20_85, n20_86, n20_87, n20_88, n20_89, n20_90, n20_91, n20_92, n20_93, n20_94, n20_95, n20_96, n20_97, n20_98, n21_2, n21_3, n21_4, n21_5, n21_6, n22_20, m_0, m_1, m_87, m_88, m_89, m_90, m_91, m_92, m_93, m_94, m_95, m_96, m_97, m_98, p_0, p_1, p_87, p_88, p_89, p_90, p_91, p_92, p_93, p_94, p_95, p_96, p_97, p_98, gR_mmb, gN_mmb, gL_mmb, i3_add1, i3_add, i3_mul, i3_addl, i3_mull, i3_ladd, i3_lmul, i3_div4, i3_le, i3_lt, i3_eq, i3_lel, i3_lle, i3_ltl, i3_llt, i3_eql, i3_leq, i3_nl, i3_0l, i3_nn, n1_lt, n1_le, xi_i3, xin_i3, xi_lit, xin_lit, xb0, xb1, gd_t, nz4, Option.bind_some, gR_emb, gN_emb, gL_emb, ↓reduceIte, if_true, if_false, not_true_eq_false, not_false_eq_true, eq_self, Nat.not_lt_zero, Nat.zero_le, true_or, or_true, false_or, or_false, true_and, and_true, false_and, and_false, e0]
    rw [if_pos (Nat.le_refl _), bz_x, gd_t]
theorem t_cutsNow8 (h : Lay M) (hB : CB C) (hE : InE (startT C D) 0 0) (hr : Ran C R a n W V D X M) (hW : WkAs n W V X) (hS : SeenX m A B S 0 X) (hf : 1100 < fu) :
    L_X12_cutsNow_8 fu fu 0 0 1 (mmb X M) = some (i3 (cnt (fun p => sfB A B S (NS (wkN C R a W V D n) p) m) (wkP C R a W V D n)), mmb X M) := by
  have hn := hW.2.1
  obtain ⟨hPl, -⟩ := wkP_le (R := R) (a := a) (W := W) (V := V) hB hn hE
  have h7 := hr.1 n (Nat.le_refl _)
  refine lpc (fun l i y => L_X12_cutsNow_8 fu l 0 y (i3 (i + 1)) (mmb X M)) (fun i => i3 (cnt (fun p => sfB A B S (NS (wkN C R a W V D n) p) m) i)) (wkP C R a W V D n) _ ?_ ?_ fu 0 (by omega) (by omega)
  · intro l i hi
    show L_X12_cutsNow_8 fu (l + 1) 0 (i3 (cnt (fun p => sfB A B S (NS (wkN C R a W V D n) p) m) i)) (i3 (i + 1)) (mmb X M) = L_X12_cutsNow_8 fu l 0 (i3 (cnt (fun p => sfB A B S (NS (wkN C R a W V D n) p) m) (i + 1))) (i3 (i + 1 + 1)) (mmb X M)
    have es := t_isAsSeen (fu := fu) (c := i + 1) h hB hn hE hr hS (by omega) (by omega) hf
    rw [show i + 1 - 1 = i by omega] at es
    rw [cnt_s]
    conv => lhs; unfold L_X12_cutsNow_8
    rw [t_putsAll h hW h7]
    simp only [Option.bind_some]
    rw [if_neg (fun q => by have := (i3_lt (by omega) (by omega)).mp q; omega), es]
    simp only [Option.bind_some, bz_0, i3_add1]
    cases sfB A B S (NS (wkN C R a W V D n) i) m with
    | false => rw [if_pos rfl, if_neg (by decide), Int32.add_zero]
    | true => rw [if_neg (by decide), if_pos rfl]
  · intro l
    show L_X12_cutsNow_8 fu (l + 1) 0 (i3 (cnt (fun p => sfB A B S (NS (wkN C R a W V D n) p) m) (wkP C R a W V D n))) (i3 (wkP C R a W V D n + 1)) (mmb X M) = _
    conv => lhs; unfold L_X12_cutsNow_8
    rw [t_putsAll h hW h7]
    simp only [Option.bind_some]
    rw [if_pos ((i3_lt (by omega) (by omega)).mpr (by omega))]
end
