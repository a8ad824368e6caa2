/-! ===== puts, whole ===== -/
section
variable {M : xM} {D E X Y Z : xT} {C : xC} {R N : Nat → Int32} {fu b d L s o t k n m i j p q f l w nb nw a : Nat} {x y z v u : Int32}
/-- behind the loop that writes the row -/
def rowX (X : xT) (lo n : Nat) (torn : Bool) : xT := fun j k => if j = 95 ∧ lo ≤ k ∧ k < lo + n then (if torn then -1 else X 96 (k - lo)) else X j k
theorem t_putsLoop (h : Lay M) (hb : b ≤ 2140) (hs : s < 36) (torn : Bool) (hf : 100 < fu) : L_X12_puts_83 fu fu 0 (i3 b) (i3 s) (bz torn) 0 (mmb X M) = L_X12_puts_83 fu (fu - 13) 0 (i3 b) (i3 s) (bz torn) (i3 13) (mmb (rowX X (b + 34 + 13 * s) 13 torn) M) := by
  have key : ∀ m i, i + m = 13 → L_X12_puts_83 fu (fu - 13 + m) 0 (i3 b) (i3 s) (bz torn) (i3 i) (mmb (rowX X (b + 34 + 13 * s) i torn) M) = L_X12_puts_83 fu (fu - 13) 0 (i3 b) (i3 s) (bz torn) (i3 13) (mmb (rowX X (b + 34 + 13 * s) 13 torn) M) := by
    intro m
    induction m with
    | zero => intro i hi; have : i = 13 := by omega
              subst this; rfl
    | succ m ih =>
      intro i hi
      rw [← ih (i + 1) (by omega)]
      show L_X12_puts_83 fu (fu - 13 + m + 1) 0 (i3 b) (i3 s) (bz torn) (i3 i) (mmb (rowX X (b + 34 + 13 * s) i torn) M) = _
      have e96 : rowX X (b + 34 + 13 * s) i torn 96 i = X 96 i := by unfold rowX; rw [if_neg (by omega)]
      have step : ∀ vv, vv = (if torn then -1 else X 96 i) → up (rowX X (b + 34 + 13 * s) i torn) 95 (b + 34 + 13 * s + i) vv = rowX X (b + 34 + 13 * s) (i + 1) torn := by
        intro vv hv
        funext j k
        rw [up_at]
        unfold rowX
        by_cases c : j = 95 ∧ k = b + 34 + 13 * s + i
        · rw [if_pos c, if_pos (by omega), hv, c.2]
          rw [show b + 34 + 13 * s + i - (b + 34 + 13 * s) = i by omega]
        · rw [if_neg c]
          by_cases c2 : j = 95 ∧ b + 34 + 13 * s ≤ k ∧ k < b + 34 + 13 * s + i
          · rw [if_pos c2, if_pos (show j = 95 ∧ b + 34 + 13 * s ≤ k ∧ k < b + 34 + 13 * s + (i + 1) by omega)]
          · rw [if_neg c2, if_neg (by omega)]
      conv => lhs; unfold L_X12_puts_83
      rw [if_neg (by rw [i3_lle (by omega) (by decide)]; exact Nat.not_le.mpr (by omega)), t_slotAt, Option.bind_some]
      cases torn with
      | false =>
        rw [if_pos (by decide)]
        simp (disch := first | assumption | omega) only [l12_0_1, l12_0_4, l12_0_5, l12_0_6, l12_0_9, l12_0_10, l12_0_11, l12_0_13, l12_0_14, l12_0_15, l12_0_16, l12_0_17, l12_0_18, l12_0_19, l12_0_23, l12_0_24, l12_0_25, l12_0_27, n20_83, n20_84, n20_85, n20_86, n20_87, n20_88, n20_89, n20_90, n20_91, n20_92, n20_93, n20_94, n20_95, n20_96, n20_97, n20_98, n21_2, n21_3, n21_4, n21_5, n21_6, n22_20, m_0, m_1, m_87, m_88, m_89, m_90, m_91, m_92, m_93, m_94, m_95, m_96, m_97, m_98, p_0, p_1, p_87, p_88, p_89, p_90, p_91, p_92, p_93, p_94, p_95, p_96, p_97, p_98, gR_mmb, gN_mmb, gL_mmb, i3_add1, i3_add, i3_mul, i3_addl, i3_mull, i3_ladd, i3_lmul, i3_div4, i3_le, i3_lt, i3_eq, i3_lel, i3_lle, i3_ltl, i3_llt, i3_eql, i3_leq, i3_nl, i3_0l, i3_nn, n1_lt, n1_le, xi_i3, xin_i3, xi_lit, xin_lit, xb0, xb1, gd_t, nz4, Option.bind_some, gR_emb, gN_emb, gL_emb, ↓reduceIte, if_true, if_false, not_true_eq_false, not_false_eq_true, eq_self, Nat.not_lt_zero, Nat.zero_le, true_or, or_true, false_or, or_false, true_and, and_true, false_and, and_false, e96]
        rw [step (X 96 i) rfl]
      | true =>
        rw [if_neg (by decide)]
        simp (disch := first | assumption | omega) only [l12_0_1, l12_0_4, l12_0_5, l12_0_6, l12_0_9, l12_0_10, l12_0_11, l12_0_13, l12_0_14, l12_0_15, l12_0_16, l12_0_17, l12_0_18, l12_0_19, l12_0_23, l12_0_24, l12_0_25, l12_0_27, n20_83, n20_84, n20_85, n20_86, n20_87, n20_88, n20_89, n20_90, n20_91, n20_92, n20_93, n20_94, n20_95, n20_96, n20_97, n20_98, n21_2, n21_3, n21_4, n21_5, n21_6, n22_20, m_0, m_1, m_87, m_88, m_89, m_90, m_91, m_92, m_93, m_94, m_95, m_96, m_97, m_98, p_0, p_1, p_87, p_88, p_89, p_90, p_91, p_92, p_93, p_94, p_95, p_96, p_97, p_98, gR_mmb, gN_mmb, gL_mmb, i3_add1, i3_add, i3_mul, i3_addl, i3_mull, i3_ladd, i3_lmul, i3_div4, i3_le, i3_lt, i3_eq, i3_lel, i3_lle, i3_ltl, i3_llt, i3_eql, i3_leq, i3_nl, i3_0l, i3_nn, n1_lt, n1_le, xi_i3, xin_i3, xi_lit, xin_lit, xb0, xb1, gd_t, nz4, Option.bind_some, gR_emb, gN_emb, gL_emb, ↓reduceIte, if_true, if_false, not_true_eq_false, not_false_eq_true, eq_self, Nat.not_lt_zero, Nat.zero_le, true_or, or_true, false_or, or_false, true_and, and_true, false_and, and_false]
        rw [step (-1) rfl]
  have e0 : rowX X (b + 34 + 13 * s) 0 torn = X := by
    funext j k
    unfold rowX
    rw [if_neg (by omega)]
  have := key 13 0 rfl
  rw [e0, show fu - 13 + 13 = fu by omega] at this
  exact this
theorem t_puts37 (h : Lay M) (hM : MCfg C X) (hb : b ≤ 2140) (hB : CB C) (hR : Rel C b D X) (hS : Spot C D k l) (hc : ∃ c, c ≤ 1000 ∧ D 14 2 = i3 c) (hh : X 95 (b + 1) = i3 k) (hf : 100 < fu) :
    J_X12_puts_37 fu 0 (i3 b) (i3 k) (mmb X M) = some (bz (! decide (D 14 2 = 1)), mmb (if D 14 2 = 1 then offX (up (putX X b k (k * C 0 1 + (C 0 1 - l)) true (X 96)) 95 (b + 34 + 13 * (k * C 0 1 + (C 0 1 - l))) 4) b else putX X b k (k * C 0 1 + (C 0 1 - l)) false (X 96)) M) := by
  obtain ⟨h1, h2, h3, h4, h5⟩ := hS
  have h36 := tot36 hB
  have h6 := hB.1
  have h61 := hB.2.1
  have hBl := blk (nw := C 0 1) h1
  have hT : tot C = C 0 0 * C 0 1 := rfl
  have hS2 : C 0 1 * k = k * C 0 1 := Nat.mul_comm _ _
  obtain ⟨c, hc20, hc2⟩ := hc
  have r3 := hR.2.2.2.1
  unfold J_X12_puts_37
  rw [t_wide h hM, Option.bind_some, t_wide h hM, Option.bind_some, t_erasedIn h hM hb hB hR hf h1, Option.bind_some, era_l h3 h5]
  simp only [i3_mul, i3_add, hS2]
  rw [i3_sub (by omega), show k * C 0 1 + C 0 1 - l = k * C 0 1 + (C 0 1 - l) by omega]
  generalize hs : k * C 0 1 + (C 0 1 - l) = s
  have hs36 : s < 36 := by omega
  rw [show gR (mmb X M) 12 0 17 = some 95 from l12_0_17 h]
  simp only [Option.bind_some, show gN (mmb X M) 20 95 = 2675 from n20_95 h, show (3 : Int32) = i3 3 from rfl, i3_add]
  rw [xin_i3 (by omega) (by omega), gd_t, xi_i3 (by omega), m_95, r3]
  simp only [p_0]
  have fin : ∀ torn : Bool, torn = decide (D 14 2 = 1) → L_X12_puts_83 fu fu 0 (i3 b) (i3 s) (bz torn) 0 (mmb (up X 0 22 (-1)) M) = some (bz (! torn), mmb (if torn then offX (up (putX X b k s true (X 96)) 95 (b + 34 + 13 * s) 4) b else putX X b k s false (X 96)) M) := by
    intro torn ht
    rw [t_putsLoop h hb hs36 torn hf]
    obtain ⟨fu', hfu⟩ : ∃ z, fu - 13 = z + 1 := ⟨fu - 14, by omega⟩
    rw [hfu]
    have e3 : rowX (up X 0 22 (-1)) (b + 34 + 13 * s) 13 torn 95 (b + 3) = X 95 (b + 3) := by unfold rowX; rw [if_neg (by omega), up_ne (by omega)]
    have e6 : rowX (up X 0 22 (-1)) (b + 34 + 13 * s) 13 torn 95 (b + 6) = X 95 (b + 6) := by unfold rowX; rw [if_neg (by omega), up_ne (by omega)]
    have ePut : ∀ vv, vv = (if X 95 (b + 3) ≤ 0 then X 95 (b + 3) else X 95 (b + 3) - 1) → up (up (rowX (up X 0 22 (-1)) (b + 34 + 13 * s) 13 torn) 95 (b + 6) (X 95 (b + 6) + 1)) 95 (b + 3) vv = putX X b k s torn (X 96) := by
      intro vv hv
      funext j k'
      rw [up_at, up_at]
      unfold putX rowX
      by_cases c3 : j = 95 ∧ k' = b + 3
      · rw [if_pos c3, if_neg (by omega), if_pos c3, hv]
      · by_cases c6 : j = 95 ∧ k' = b + 6
        · rw [if_neg c3, if_pos c6, if_neg (by omega), if_neg c3, if_pos c6]
        · rw [if_neg c3, if_neg c6]
          by_cases c22 : j = 0 ∧ k' = 22
          · rw [if_neg (by omega), if_pos c22, up_at, if_pos c22]
          · rw [if_neg c22, if_neg c3, if_neg c6]
            by_cases cr : j = 95 ∧ b + 34 + 13 * s ≤ k' ∧ k' < b + 34 + 13 * s + 13
            · rw [if_pos cr, if_pos cr, up_ne (by omega)]
            · rw [if_neg cr, if_neg cr, up_ne (by omega)]
              by_cases c1 : j = 95 ∧ k' = b + 1
              · rw [if_pos c1, c1.1, c1.2, hh]
              · rw [if_neg c1]
    conv => lhs; unfold L_X12_puts_83
    rw [if_pos (by decide)]
    simp (disch := first | assumption | omega) only [l12_0_1, l12_0_4, l12_0_5, l12_0_6, l12_0_9, l12_0_10, l12_0_11, l12_0_13, l12_0_14, l12_0_15, l12_0_16, l12_0_17, l12_0_18, l12_0_19, l12_0_23, l12_0_24, l12_0_25, l12_0_27, n20_83, n20_84, n20_85, n20_86, n20_87, n20_88, n20_89, n20_90, n20_91, n20_92, n20_93, n20_94, n20_95, n20_96, n20_97, n20_98, n21_2, n21_3, n21_4, n21_5, n21_6, n22_20, m_0, m_1, m_87, m_88, m_89, m_90, m_91, m_92, m_93, m_94, m_95, m_96, m_97, m_98, p_0, p_1, p_87, p_88, p_89, p_90, p_91, p_92, p_93, p_94, p_95, p_96, p_97, p_98, gR_mmb, gN_mmb, gL_mmb, i3_add1, i3_add, i3_mul, i3_addl, i3_mull, i3_ladd, i3_lmul, i3_div4, i3_le, i3_lt, i3_eq, i3_lel, i3_lle, i3_ltl, i3_llt, i3_eql, i3_leq, i3_nl, i3_0l, i3_nn, n1_lt, n1_le, xi_i3, xin_i3, xi_lit, xin_lit, xb0, xb1, gd_t, nz4, Option.bind_some, gR_emb, gN_emb, gL_emb, ↓reduceIte, if_true, if_false, not_true_eq_false, not_false_eq_true, eq_self, Nat.not_lt_zero, Nat.zero_le, true_or, or_true, false_or, or_false, true_and, and_true, false_and, and_false, up_at, e3, e6]
    simp only [Nat.add_right_inj, Nat.reduceEqDiff, and_false, if_false, e3, e6]
    have j163 : ∀ w : Int32, (w = 0 ∧ X 95 (b + 3) ≤ 0 ∨ w = 1 ∧ ¬ X 95 (b + 3) ≤ 0) → J_X12_puts_163 fu 0 (i3 b) (i3 s) (bz torn) w (X 95 (b + 3)) (i3 (b + 3)) (some 95) (mmb (up (rowX (up X 0 22 (-1)) (b + 34 + 13 * s) 13 torn) 95 (b + 6) (X 95 (b + 6) + 1)) M) = some (bz (! torn), mmb (if torn then offX (up (putX X b k s true (X 96)) 95 (b + 34 + 13 * s) 4) b else putX X b k s false (X 96)) M) := by
      intro w hw
      have hv : X 95 (b + 3) - w = (if X 95 (b + 3) ≤ 0 then X 95 (b + 3) else X 95 (b + 3) - 1) := by
        rcases hw with ⟨rfl, q⟩ | ⟨rfl, q⟩
        · rw [if_pos q]; exact Int32.sub_zero _
        · rw [if_neg q]
      unfold J_X12_puts_163 J_X12_puts_186
      simp (disch := first | assumption | omega) only [l12_0_1, l12_0_4, l12_0_5, l12_0_6, l12_0_9, l12_0_10, l12_0_11, l12_0_13, l12_0_14, l12_0_15, l12_0_16, l12_0_17, l12_0_18, l12_0_19, l12_0_23, l12_0_24, l12_0_25, l12_0_27, n20_83, n20_84, n20_85, n20_86, n20_87, n20_88, n20_89, n20_90, n20_91, n20_92, n20_93, n20_94, n20_95, n20_96, n20_97, n20_98, n21_2, n21_3, n21_4, n21_5, n21_6, n22_20, m_0, m_1, m_87, m_88, m_89, m_90, m_91, m_92, m_93, m_94, m_95, m_96, m_97, m_98, p_0, p_1, p_87, p_88, p_89, p_90, p_91, p_92, p_93, p_94, p_95, p_96, p_97, p_98, gR_mmb, gN_mmb, gL_mmb, i3_add1, i3_add, i3_mul, i3_addl, i3_mull, i3_ladd, i3_lmul, i3_div4, i3_le, i3_lt, i3_eq, i3_lel, i3_lle, i3_ltl, i3_llt, i3_eql, i3_leq, i3_nl, i3_0l, i3_nn, n1_lt, n1_le, xi_i3, xin_i3, xi_lit, xin_lit, xb0, xb1, gd_t, nz4, Option.bind_some, gR_emb, gN_emb, gL_emb, ↓reduceIte, if_true, if_false, not_true_eq_false, not_false_eq_true, eq_self, Nat.not_lt_zero, Nat.zero_le, true_or, or_true, false_or, or_false, true_and, and_true, false_and, and_false]
      rw [ePut _ hv]
      cases torn with
      | false => rfl
      | true =>
        rw [if_neg (by decide), t_slotAt, Option.bind_some]
        simp (disch := first | assumption | omega) only [l12_0_1, l12_0_4, l12_0_5, l12_0_6, l12_0_9, l12_0_10, l12_0_11, l12_0_13, l12_0_14, l12_0_15, l12_0_16, l12_0_17, l12_0_18, l12_0_19, l12_0_23, l12_0_24, l12_0_25, l12_0_27, n20_83, n20_84, n20_85, n20_86, n20_87, n20_88, n20_89, n20_90, n20_91, n20_92, n20_93, n20_94, n20_95, n20_96, n20_97, n20_98, n21_2, n21_3, n21_4, n21_5, n21_6, n22_20, m_0, m_1, m_87, m_88, m_89, m_90, m_91, m_92, m_93, m_94, m_95, m_96, m_97, m_98, p_0, p_1, p_87, p_88, p_89, p_90, p_91, p_92, p_93, p_94, p_95, p_96, p_97, p_98, gR_mmb, gN_mmb, gL_mmb, i3_add1, i3_add, i3_mul, i3_addl, i3_mull, i3_ladd, i3_lmul, i3_div4, i3_le, i3_lt, i3_eq, i3_lel, i3_lle, i3_ltl, i3_llt, i3_eql, i3_leq, i3_nl, i3_0l, i3_nn, n1_lt, n1_le, xi_i3, xin_i3, xi_lit, xin_lit, xb0, xb1, gd_t, nz4, Option.bind_some, gR_emb, gN_emb, gL_emb, ↓reduceIte, if_true, if_false, not_true_eq_false, not_false_eq_true, eq_self, Nat.not_lt_zero, Nat.zero_le, true_or, or_true, false_or, or_false, true_and, and_true, false_and, and_false]
        rw [t_powersOff h hb hf, Option.bind_some]
        rfl
    by_cases c0 : X 95 (b + 3) ≤ 0
    · rw [if_pos c0]; exact j163 0 (Or.inl ⟨rfl, c0⟩)
    · rw [if_neg c0]; exact j163 1 (Or.inr ⟨rfl, c0⟩)
  by_cases cT : D 14 2 = 1
  · rw [if_neg (by simpa using cT)]
    have := fin true (by simp [cT])
    rw [if_pos rfl] at this
    rw [if_pos cT, decide_eq_true cT]
    exact this
  · rw [if_pos cT]
    have := fin false (by simp [cT])
    rw [if_neg (by decide)] at this
    rw [if_neg cT, decide_eq_false cT]
    exact this
end
