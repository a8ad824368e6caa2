/-! ===== the rule's value, in the reference ===== -/
def PAg (a : Nat) (E Y : xT) (h : Nat) : Prop := (∀ k, k < h → Y 94 k = E (25 + 2 * a) k) ∧ ∀ k, k < 4 → Y 93 k = E (26 + 2 * a) k
section
variable {M : xM} {D E X Y Z T P X' E' E'' X'' : xT} {C : xC} {R N : Nat → Int32} {fu b d L L' s o t k n m i j p q f l w nb nw a at' : Nat} {x y z v u c : Int32} {nt : Bool}
theorem PAg_put (hA : PAg a E Y t) (hm : ∀ k, k < m → k = s ∨ k < t) : PAg a (up E (25 + 2 * a) s v) (up Y 94 s v) m := by
  refine ⟨fun k hk => ?_, fun k hk => ?_⟩
  · by_cases e : k = s
    · rw [e, up_eq, up_eq]
    · have := hm k hk
      rw [up_ne (by omega), up_ne (by omega)]; exact hA.1 k (by omega)
  · rw [up_ne (by omega), up_ne (by omega)]; exact hA.2 k hk
theorem fact_dec : ∀ i : Fin 4, ¬ ((-1 : Int32) - i3 i ≤ -5) ∧ ((-1 : Int32) - i3 i < 0) ∧ xi (-1 - (-1 - i3 i)) = i := by decide +kernel
theorem op_dec : ∀ k : Fin 7, ¬ (-5 : Int32) ≤ (if (k : Nat) = 0 then -7 else if (k : Nat) = 1 then -8 else if (k : Nat) = 2 then -6 else if (k : Nat) = 3 then -9 else if (k : Nat) = 4 then -10 else if (k : Nat) = 5 then -11 else -12) ∧ (if (k : Nat) = 0 then -7 else if (k : Nat) = 1 then -8 else if (k : Nat) = 2 then -6 else if (k : Nat) = 3 then -9 else if (k : Nat) = 4 then -10 else if (k : Nat) = 5 then -11 else -12) ≤ (-5 : Int32) := by decide +kernel
theorem code_dm {r v0 : Nat} (hr : r < 16) (hv : v0 ≤ 9999) (hx : x = i3 (16 * v0 + r)) : x / 16 = i3 v0 ∧ x - x / 16 * 16 = i3 r := by
  have h := code_div hr hv
  rw [hx, h.1, h.2]
  exact ⟨rfl, rfl⟩
theorem t_worthStep (h : Lay M) (hc : codeOf c x) (hx : Y 91 q = x) (hq : q < 2200) (ht : t ≤ 32) (h1 : ¬ c ≤ -5 → t < 32) (h2 : c = -5 → 0 < t) (h3 : ¬ (-5 : Int32) ≤ c → 1 < t) (hA : PAg a E Y t) :
    ∃ Y', L_X12_worthAt_4 fu (n + 1) 0 (i3 t) (i3 q) (mmb Y M) = L_X12_worthAt_4 fu n 0 (i3 (valS a c (t, E)).1) (i3 (q + 1)) (mmb Y' M) ∧ (∀ j k, j ≠ 94 → Y' j k = Y j k) ∧ PAg a (valS a c (t, E)).2 Y' (valS a c (t, E)).1 := by
  have a1 := hA.1
  have a2 := hA.2
  conv => enter [1, Y', 1, 1]; unfold L_X12_worthAt_4
  rcases hc with ⟨v, hv, ec, ex⟩ | ⟨i, hi, ec, ex⟩ | ⟨ec, ex⟩ | ⟨k, hk, -, ex, ec⟩
  · have hcd := code_dm (r := 1) (v0 := v) (by decide) hv ex
    have c5 : ¬ c ≤ -5 := by
      rw [ec]; intro q
      have := Int32.le_iff_toInt_le.mp q
      rw [i3_toInt (by omega)] at this
      have e5 : (-5 : Int32).toInt = -5 := by decide
      omega
    have c0 : ¬ c < 0 := by rw [ec]; exact fun q => (i3_nl (a := v) (by omega)).mp q
    have ht2 := h1 c5
    have vs : valS a c (t, E) = (t + 1, up E (25 + 2 * a) t (i3 v)) := by
      unfold valS
      rw [if_pos ⟨c5, ht2⟩, if_neg c0, ec]
    refine ⟨up Y 94 t (i3 v), ?_, fun j k hj => up_ne (by omega), ?_⟩
    · rw [vs]
      unfold J_X12_worthAt_39
      simp (disch := first | assumption | omega) only [l12_0_1, l12_0_4, l12_0_5, l12_0_6, l12_0_9, l12_0_10, l12_0_11, l12_0_13, l12_0_14, l12_0_15, l12_0_16, l12_0_17, l12_0_18, l12_0_19, l12_0_23, l12_0_24, l12_0_25, l12_0_27, n20_83, n20_84, n20_85, n20_86, n20_87, n20_88, n20_89, n20_90, n20_91, n20_92, n20_93, n20_94, n20_95, n20_96, n20_97, n20_98, n21_2, n21_3, n21_4, n21_5, n21_6, n22_20, m_0, m_1, m_87, m_88, m_89, m_90, m_91, m_92, m_93, m_94, m_95, m_96, m_97, m_98, p_0, p_1, p_87, p_88, p_89, p_90, p_91, p_92, p_93, p_94, p_95, p_96, p_97, p_98, gR_mmb, gN_mmb, gL_mmb, i3_add1, i3_add, i3_mul, i3_addl, i3_mull, i3_ladd, i3_lmul, i3_div4, i3_le, i3_lt, i3_eq, i3_lel, i3_lle, i3_ltl, i3_llt, i3_eql, i3_leq, i3_nl, i3_0l, i3_nn, n1_lt, n1_le, xi_i3, xin_i3, xi_lit, xin_lit, xb0, xb1, gd_t, nz4, Option.bind_some, gR_emb, gN_emb, gL_emb, ↓reduceIte, if_true, if_false, not_true_eq_false, not_false_eq_true, eq_self, Nat.not_lt_zero, Nat.zero_le, true_or, or_true, false_or, or_false, true_and, and_true, false_and, and_false, hx, nz16]
      rw [hcd.2]
      simp (disch := first | assumption | omega) only [l12_0_1, l12_0_4, l12_0_5, l12_0_6, l12_0_9, l12_0_10, l12_0_11, l12_0_13, l12_0_14, l12_0_15, l12_0_16, l12_0_17, l12_0_18, l12_0_19, l12_0_23, l12_0_24, l12_0_25, l12_0_27, n20_83, n20_84, n20_85, n20_86, n20_87, n20_88, n20_89, n20_90, n20_91, n20_92, n20_93, n20_94, n20_95, n20_96, n20_97, n20_98, n21_2, n21_3, n21_4, n21_5, n21_6, n22_20, m_0, m_1, m_87, m_88, m_89, m_90, m_91, m_92, m_93, m_94, m_95, m_96, m_97, m_98, p_0, p_1, p_87, p_88, p_89, p_90, p_91, p_92, p_93, p_94, p_95, p_96, p_97, p_98, gR_mmb, gN_mmb, gL_mmb, i3_add1, i3_add, i3_mul, i3_addl, i3_mull, i3_ladd, i3_lmul, i3_div4, i3_le, i3_lt, i3_eq, i3_lel, i3_lle, i3_ltl, i3_llt, i3_eql, i3_leq, i3_nl, i3_0l, i3_nn, n1_lt, n1_le, xi_i3, xin_i3, xi_lit, xin_lit, xb0, xb1, gd_t, nz4, Option.bind_some, gR_emb, gN_emb, gL_emb, ↓reduceIte, if_true, if_false, not_true_eq_false, not_false_eq_true, eq_self, Nat.not_lt_zero, Nat.zero_le, true_or, or_true, false_or, or_false, true_and, and_true, false_and, and_false, hcd.1]
      rw [if_neg (by decide)]
    · rw [vs]
      exact PAg_put hA (fun k' hk' => by simp only at hk'; omega)
  · have hcd := code_dm (r := 2) (v0 := i) (by decide) (by omega) ex
    have fd := fact_dec ⟨i, hi⟩
    have c5 : ¬ c ≤ -5 := by rw [ec]; exact fd.1
    have c0 : c < 0 := by rw [ec]; exact fd.2.1
    have ci : xi (-1 - c) = i := by rw [ec]; exact fd.2.2
    have ht2 := h1 c5
    have vs : valS a c (t, E) = (t + 1, up E (25 + 2 * a) t (E (26 + 2 * a) i)) := by
      unfold valS
      rw [if_pos ⟨c5, ht2⟩, if_pos c0, ci]
    refine ⟨up Y 94 t (E (26 + 2 * a) i), ?_, fun j k hj => up_ne (by omega), ?_⟩
    · rw [vs]
      unfold J_X12_worthAt_39
      simp (disch := first | assumption | omega) only [l12_0_1, l12_0_4, l12_0_5, l12_0_6, l12_0_9, l12_0_10, l12_0_11, l12_0_13, l12_0_14, l12_0_15, l12_0_16, l12_0_17, l12_0_18, l12_0_19, l12_0_23, l12_0_24, l12_0_25, l12_0_27, n20_83, n20_84, n20_85, n20_86, n20_87, n20_88, n20_89, n20_90, n20_91, n20_92, n20_93, n20_94, n20_95, n20_96, n20_97, n20_98, n21_2, n21_3, n21_4, n21_5, n21_6, n22_20, m_0, m_1, m_87, m_88, m_89, m_90, m_91, m_92, m_93, m_94, m_95, m_96, m_97, m_98, p_0, p_1, p_87, p_88, p_89, p_90, p_91, p_92, p_93, p_94, p_95, p_96, p_97, p_98, gR_mmb, gN_mmb, gL_mmb, i3_add1, i3_add, i3_mul, i3_addl, i3_mull, i3_ladd, i3_lmul, i3_div4, i3_le, i3_lt, i3_eq, i3_lel, i3_lle, i3_ltl, i3_llt, i3_eql, i3_leq, i3_nl, i3_0l, i3_nn, n1_lt, n1_le, xi_i3, xin_i3, xi_lit, xin_lit, xb0, xb1, gd_t, nz4, Option.bind_some, gR_emb, gN_emb, gL_emb, ↓reduceIte, if_true, if_false, not_true_eq_false, not_false_eq_true, eq_self, Nat.not_lt_zero, Nat.zero_le, true_or, or_true, false_or, or_false, true_and, and_true, false_and, and_false, hx, nz16]
      rw [hcd.2]
      have m1 : ¬ (2 : Nat) = 0 := by decide
      have m2 : ¬ (2 : Nat) = 1 := by decide
      simp (disch := first | assumption | omega) only [l12_0_1, l12_0_4, l12_0_5, l12_0_6, l12_0_9, l12_0_10, l12_0_11, l12_0_13, l12_0_14, l12_0_15, l12_0_16, l12_0_17, l12_0_18, l12_0_19, l12_0_23, l12_0_24, l12_0_25, l12_0_27, n20_83, n20_84, n20_85, n20_86, n20_87, n20_88, n20_89, n20_90, n20_91, n20_92, n20_93, n20_94, n20_95, n20_96, n20_97, n20_98, n21_2, n21_3, n21_4, n21_5, n21_6, n22_20, m_0, m_1, m_87, m_88, m_89, m_90, m_91, m_92, m_93, m_94, m_95, m_96, m_97, m_98, p_0, p_1, p_87, p_88, p_89, p_90, p_91, p_92, p_93, p_94, p_95, p_96, p_97, p_98, gR_mmb, gN_mmb, gL_mmb, i3_add1, i3_add, i3_mul, i3_addl, i3_mull, i3_ladd, i3_lmul, i3_div4, i3_le, i3_lt, i3_eq, i3_lel, i3_lle, i3_ltl, i3_llt, i3_eql, i3_leq, i3_nl, i3_0l, i3_nn, n1_lt, n1_le, xi_i3, xin_i3, xi_lit, xin_lit, xb0, xb1, gd_t, nz4, Option.bind_some, gR_emb, gN_emb, gL_emb, ↓reduceIte, if_true, if_false, not_true_eq_false, not_false_eq_true, eq_self, Nat.not_lt_zero, Nat.zero_le, true_or, or_true, false_or, or_false, true_and, and_true, false_and, and_false, hcd.1, a2 i hi]
      rw [if_neg m1, if_neg m2, if_pos m2]
    · rw [vs]
      exact PAg_put hA (fun k' hk' => by simp only at hk'; omega)
  · have hcd := code_dm (r := 3) (v0 := 0) (by decide) (by omega) ex
    have ht2 := h2 ec
    have e2 : i3 t - 1 = i3 (t - 1) := i3_sub (a := t) (b := 1) (by omega)
    have hv := a1 (t - 1) (by omega)
    have vs : valS a c (t, E) = (t, up E (25 + 2 * a) (t - 1) (if E (25 + 2 * a) (t - 1) = 0 then 1 else 0)) := by
      unfold valS
      rw [if_neg (fun q => q.1 (by rw [ec]; exact Int32.le_refl _)), if_pos ⟨ec, ht2⟩]
    refine ⟨up Y 94 (t - 1) (if E (25 + 2 * a) (t - 1) = 0 then 1 else 0), ?_, fun j k hj => up_ne (by omega), ?_⟩
    · rw [vs]
      simp (disch := first | assumption | omega) only [l12_0_1, l12_0_4, l12_0_5, l12_0_6, l12_0_9, l12_0_10, l12_0_11, l12_0_13, l12_0_14, l12_0_15, l12_0_16, l12_0_17, l12_0_18, l12_0_19, l12_0_23, l12_0_24, l12_0_25, l12_0_27, n20_83, n20_84, n20_85, n20_86, n20_87, n20_88, n20_89, n20_90, n20_91, n20_92, n20_93, n20_94, n20_95, n20_96, n20_97, n20_98, n21_2, n21_3, n21_4, n21_5, n21_6, n22_20, m_0, m_1, m_87, m_88, m_89, m_90, m_91, m_92, m_93, m_94, m_95, m_96, m_97, m_98, p_0, p_1, p_87, p_88, p_89, p_90, p_91, p_92, p_93, p_94, p_95, p_96, p_97, p_98, gR_mmb, gN_mmb, gL_mmb, i3_add1, i3_add, i3_mul, i3_addl, i3_mull, i3_ladd, i3_lmul, i3_div4, i3_le, i3_lt, i3_eq, i3_lel, i3_lle, i3_ltl, i3_llt, i3_eql, i3_leq, i3_nl, i3_0l, i3_nn, n1_lt, n1_le, xi_i3, xin_i3, xi_lit, xin_lit, xb0, xb1, gd_t, nz4, Option.bind_some, gR_emb, gN_emb, gL_emb, ↓reduceIte, if_true, if_false, not_true_eq_false, not_false_eq_true, eq_self, Nat.not_lt_zero, Nat.zero_le, true_or, or_true, false_or, or_false, true_and, and_true, false_and, and_false, hx, nz16]
      rw [hcd.2]
      have m1 : ¬ (3 : Nat) = 0 := by decide
      have m2 : ¬ (3 : Nat) = 1 := by decide
      have m3 : ¬ (3 : Nat) = 2 := by decide
      simp (disch := first | assumption | omega) only [l12_0_1, l12_0_4, l12_0_5, l12_0_6, l12_0_9, l12_0_10, l12_0_11, l12_0_13, l12_0_14, l12_0_15, l12_0_16, l12_0_17, l12_0_18, l12_0_19, l12_0_23, l12_0_24, l12_0_25, l12_0_27, n20_83, n20_84, n20_85, n20_86, n20_87, n20_88, n20_89, n20_90, n20_91, n20_92, n20_93, n20_94, n20_95, n20_96, n20_97, n20_98, n21_2, n21_3, n21_4, n21_5, n21_6, n22_20, m_0, m_1, m_87, m_88, m_89, m_90, m_91, m_92, m_93, m_94, m_95, m_96, m_97, m_98, p_0, p_1, p_87, p_88, p_89, p_90, p_91, p_92, p_93, p_94, p_95, p_96, p_97, p_98, gR_mmb, gN_mmb, gL_mmb, i3_add1, i3_add, i3_mul, i3_addl, i3_mull, i3_ladd, i3_lmul, i3_div4, i3_le, i3_lt, i3_eq, i3_lel, i3_lle, i3_ltl, i3_llt, i3_eql, i3_leq, i3_nl, i3_0l, i3_nn, n1_lt, n1_le, xi_i3, xin_i3, xi_lit, xin_lit, xb0, xb1, gd_t, nz4, Option.bind_some, gR_emb, gN_emb, gL_emb, ↓reduceIte, if_true, if_false, not_true_eq_false, not_false_eq_true, eq_self, Nat.not_lt_zero, Nat.zero_le, true_or, or_true, false_or, or_false, true_and, and_true, false_and, and_false, e2, hv]
      rw [if_neg m1, if_neg m2, if_pos m3]
      by_cases z : E (25 + 2 * a) (t - 1) = 0
      · simp [z]
      · simp [z]
    · rw [vs]
      exact PAg_put hA (fun k' hk' => by simp only at hk'; omega)
  · have hcd := code_dm (r := k + 4) (v0 := 0) (by omega) (by omega) ex
    have od := op_dec ⟨k, hk⟩
    have c5 : ¬ (-5 : Int32) ≤ c ∧ c ≤ -5 ∧ ¬ c = -5 := by
      rw [← ec] at od
      exact ⟨od.1, od.2, fun q => od.1 (by rw [q]; exact Int32.le_refl _)⟩
    have ht2 := h3 c5.1
    have e1 : i3 t + (-1) = i3 (t - 1) := i3_addn (by omega)
    have e2 : i3 (t - 1) - 1 = i3 (t - 2) := (i3_sub (a := t - 1) (b := 1) (by omega)).trans (by rw [show t - 1 - 1 = t - 2 by omega])
    have hv1 := a1 (t - 1) (by omega)
    have hv2 := a1 (t - 2) (by omega)
    have vs : valS a c (t, E) = (t - 1, up E (25 + 2 * a) (t - 2) (joinT c (E (25 + 2 * a) (t - 2)) (E (25 + 2 * a) (t - 1)))) := by
      unfold valS
      rw [if_neg (fun q => q.1 c5.2.1), if_neg (fun q => c5.2.2 q.1), if_pos ⟨c5.1, ht2⟩]
    refine ⟨up Y 94 (t - 2) (joinT c (E (25 + 2 * a) (t - 2)) (E (25 + 2 * a) (t - 1))), ?_, fun j k hj => up_ne (by omega), ?_⟩
    · rw [vs]
      have n0 : ¬ i3 (k + 4) = 0 := fun q => by have := (i3_eq (a := k + 4) (b := 0) (by omega) (by omega)).mp q; omega
      have n1 : ¬ i3 (k + 4) = 1 := fun q => by have := (i3_eq (a := k + 4) (b := 1) (by omega) (by omega)).mp q; omega
      have n2 : ¬ i3 (k + 4) = 2 := fun q => by have := (i3_eq (a := k + 4) (b := 2) (by omega) (by omega)).mp q; omega
      have n3 : ¬ i3 (k + 4) = 3 := fun q => by have := (i3_eq (a := k + 4) (b := 3) (by omega) (by omega)).mp q; omega
      simp (disch := first | assumption | omega) only [l12_0_1, l12_0_4, l12_0_5, l12_0_6, l12_0_9, l12_0_10, l12_0_11, l12_0_13, l12_0_14, l12_0_15, l12_0_16, l12_0_17, l12_0_18, l12_0_19, l12_0_23, l12_0_24, l12_0_25, l12_0_27, n20_83, n20_84, n20_85, n20_86, n20_87, n20_88, n20_89, n20_90, n20_91, n20_92, n20_93, n20_94, n20_95, n20_96, n20_97, n20_98, n21_2, n21_3, n21_4, n21_5, n21_6, n22_20, m_0, m_1, m_87, m_88, m_89, m_90, m_91, m_92, m_93, m_94, m_95, m_96, m_97, m_98, p_0, p_1, p_87, p_88, p_89, p_90, p_91, p_92, p_93, p_94, p_95, p_96, p_97, p_98, gR_mmb, gN_mmb, gL_mmb, i3_add1, i3_add, i3_mul, i3_addl, i3_mull, i3_ladd, i3_lmul, i3_div4, i3_le, i3_lt, i3_eq, i3_lel, i3_lle, i3_ltl, i3_llt, i3_eql, i3_leq, i3_nl, i3_0l, i3_nn, n1_lt, n1_le, xi_i3, xin_i3, xi_lit, xin_lit, xb0, xb1, gd_t, nz4, Option.bind_some, gR_emb, gN_emb, gL_emb, ↓reduceIte, if_true, if_false, not_true_eq_false, not_false_eq_true, eq_self, Nat.not_lt_zero, Nat.zero_le, true_or, or_true, false_or, or_false, true_and, and_true, false_and, and_false, hx, nz16]
      rw [hcd.2]
      simp (disch := first | assumption | omega) only [l12_0_1, l12_0_4, l12_0_5, l12_0_6, l12_0_9, l12_0_10, l12_0_11, l12_0_13, l12_0_14, l12_0_15, l12_0_16, l12_0_17, l12_0_18, l12_0_19, l12_0_23, l12_0_24, l12_0_25, l12_0_27, n20_83, n20_84, n20_85, n20_86, n20_87, n20_88, n20_89, n20_90, n20_91, n20_92, n20_93, n20_94, n20_95, n20_96, n20_97, n20_98, n21_2, n21_3, n21_4, n21_5, n21_6, n22_20, m_0, m_1, m_87, m_88, m_89, m_90, m_91, m_92, m_93, m_94, m_95, m_96, m_97, m_98, p_0, p_1, p_87, p_88, p_89, p_90, p_91, p_92, p_93, p_94, p_95, p_96, p_97, p_98, gR_mmb, gN_mmb, gL_mmb, i3_add1, i3_add, i3_mul, i3_addl, i3_mull, i3_ladd, i3_lmul, i3_div4, i3_le, i3_lt, i3_eq, i3_lel, i3_lle, i3_ltl, i3_llt, i3_eql, i3_leq, i3_nl, i3_0l, i3_nn, n1_lt, n1_le, xi_i3, xin_i3, xi_lit, xin_lit, xb0, xb1, gd_t, nz4, Option.bind_some, gR_emb, gN_emb, gL_emb, ↓reduceIte, if_true, if_false, not_true_eq_false, not_false_eq_true, eq_self, Nat.not_lt_zero, Nat.zero_le, true_or, or_true, false_or, or_false, true_and, and_true, false_and, and_false, e1, e2, hv1, hv2, n0, n1, n2, n3, t_worked hk]
      rw [ec]
    · rw [vs]
      exact PAg_put hA (fun k' hk' => by simp only at hk'; omega)
end
