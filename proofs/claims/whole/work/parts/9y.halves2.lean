/-! ===== halves, in the reference ===== -/
/-- put p (from 0) leaves line i half done -/
def hfB (C : xC) (R : Nat → Int32) (a n : Nat) (W : Nat → Nat) (V : Nat → Nat → Int32) (D : xT) (i p : Nat) : Bool :=
  ! alikeB (wkN C R a W V D n) (xi (wkN C R a W V D n 22 p)) (findT (wkN C R a W V D i) (tot C) 17) && ! alikeB (wkN C R a W V D n) (xi (wkN C R a W V D n 22 p)) (findT (wkN C R a W V D (i + 1)) (tot C) 17)
/-- how many puts of the first k lines leave one half done -/
def halfF (C : xC) (R : Nat → Int32) (a n : Nat) (W : Nat → Nat) (V : Nat → Nat → Int32) (D : xT) : Nat → Nat
  | 0 => 0
  | k + 1 => halfF C R a n W V D k + cnt (fun q => hfB C R a n W V D k (wkP C R a W V D k + q)) (wkP C R a W V D (k + 1) - wkP C R a W V D k)
section
variable {M : xM} {D E X : xT} {C : xC} {R : Nat → Int32} {fu n m i j o p q a c k l s x K P : Nat} {W : Nat → Nat} {V : Nat → Nat → Int32} {kk : Nat → Int32 → Int32 → xM → Option (Int32 × xM)}
theorem wkP_mono (hB : CB C) (hE : InE (startT C D) 0 0) (h : i + m ≤ 24) : wkP C R a W V D i ≤ wkP C R a W V D (i + m) :=
  (wk_keep (R := R) (a := a) (W := W) (V := V) hB (Inv_startF (C := C) (D := D) hB) (InV_startF hB) (by omega) stF_142 (InE_stF hE) m i h).1
theorem t_halves32 (h : Lay M) (hB : CB C) (hn : n ≤ 24) (hE : InE (startT C D) 0 0) (hr : Ran C R a n W V D X M) (hi : i < n) (hq : wkP C R a W V D i + q = wkP C R a W V D (i + 1)) : ∀ m j l, j + m = q → m < l →
    L_X12_halves_32 fu kk l 0 (i3 (x + cnt (fun q => hfB C R a n W V D i (wkP C R a W V D i + q)) j)) (i3 i) (i3 (wkP C R a W V D i + j + 1)) (mmb X M) = kk 0 (i3 (x + cnt (fun q => hfB C R a n W V D i (wkP C R a W V D i + q)) q)) (i3 (i + 1)) (mmb X M) := by
  obtain ⟨hPl, -⟩ := wkP_le (R := R) (a := a) (W := W) (V := V) hB hn hE
  have hmo := wkP_mono (R := R) (a := a) (W := W) (V := V) (i := i + 1) (m := n - (i + 1)) hB hE (by omega)
  rw [show i + 1 + (n - (i + 1)) = n by omega] at hmo
  have e7 := hr.1 (i + 1) (by omega)
  intro m
  induction m with
  | zero =>
    intro j l hj hl
    obtain ⟨l, rfl⟩ : ∃ k, l = k + 1 := ⟨l - 1, by omega⟩
    have : j = q := by omega
    subst this
    conv => lhs; unfold L_X12_halves_32
    simp (disch := first | assumption | omega) only [l12_0_1, l12_0_4, l12_0_5, l12_0_6, l12_0_9, l12_0_10, l12_0_11, l12_0_13, l12_0_14, l12_0_15, l12_0_16, l12_0_17, l12_0_18, l12_0_19, l12_0_23, l12_0_24, l12_0_25, l12_0_27, n20_83, n20_84, n20_85, n20_86, n20_87, n20_88, n20_89, n20_90, n20_91, n20_92, n20_93, n20_94, n20_95, n20_96, n20_97, n20_98, n21_2, n21_3, n21_4, n21_5, n21_6, n22_20, m_0, m_1, m_87, m_88, m_89, m_90, m_91, m_92, m_93, m_94, m_95, m_96, m_97, m_98, p_0, p_1, p_87, p_88, p_89, p_90, p_91, p_92, p_93, p_94, p_95, p_96, p_97, p_98, gR_mmb, gN_mmb, gL_mmb, i3_add1, i3_add, i3_mul, i3_addl, i3_mull, i3_ladd, i3_lmul, i3_div4, i3_le, i3_lt, i3_eq, i3_lel, i3_lle, i3_ltl, i3_llt, i3_eql, i3_leq, i3_nl, i3_0l, i3_nn, n1_lt, n1_le, xi_i3, xin_i3, xi_lit, xin_lit, xb0, xb1, gd_t, nz4, Option.bind_some, gR_emb, gN_emb, gL_emb, ↓reduceIte, if_true, if_false, not_true_eq_false, not_false_eq_true, eq_self, Nat.not_lt_zero, Nat.zero_le, true_or, or_true, false_or, or_false, true_and, and_true, false_and, and_false, e7]
    rw [if_pos (by omega)]
  | succ m ih =>
    intro j l hj hl
    obtain ⟨l, rfl⟩ : ∃ k, l = k + 1 := ⟨l - 1, by omega⟩
    have ih2 := ih (j + 1) l (by omega) (by omega)
    rw [cnt_s] at ih2
    have s1 := t_sameAhead (fu := fu) (R := R) (a := a) (W := W) (V := V) (c := wkP C R a W V D i + j + 1) (i := i) h hB hn hE hr (by omega) (by omega) (by omega)
    have s2 := t_sameAhead (fu := fu) (R := R) (a := a) (W := W) (V := V) (c := wkP C R a W V D i + j + 1) (i := i + 1) h hB hn hE hr (by omega) (by omega) (by omega)
    rw [show wkP C R a W V D i + j + 1 - 1 = wkP C R a W V D i + j by omega] at s1 s2
    have e3 : 3 * (i + 1) = 3 * i + 3 := by omega
    rw [e3] at s2
    conv => lhs; unfold L_X12_halves_32
    simp (disch := first | assumption | omega) only [l12_0_1, l12_0_4, l12_0_5, l12_0_6, l12_0_9, l12_0_10, l12_0_11, l12_0_13, l12_0_14, l12_0_15, l12_0_16, l12_0_17, l12_0_18, l12_0_19, l12_0_23, l12_0_24, l12_0_25, l12_0_27, n20_83, n20_84, n20_85, n20_86, n20_87, n20_88, n20_89, n20_90, n20_91, n20_92, n20_93, n20_94, n20_95, n20_96, n20_97, n20_98, n21_2, n21_3, n21_4, n21_5, n21_6, n22_20, m_0, m_1, m_87, m_88, m_89, m_90, m_91, m_92, m_93, m_94, m_95, m_96, m_97, m_98, p_0, p_1, p_87, p_88, p_89, p_90, p_91, p_92, p_93, p_94, p_95, p_96, p_97, p_98, gR_mmb, gN_mmb, gL_mmb, i3_add1, i3_add, i3_mul, i3_addl, i3_mull, i3_ladd, i3_lmul, i3_div4, i3_le, i3_lt, i3_eq, i3_lel, i3_lle, i3_ltl, i3_llt, i3_eql, i3_leq, i3_nl, i3_0l, i3_nn, n1_lt, n1_le, xi_i3, xin_i3, xi_lit, xin_lit, xb0, xb1, gd_t, nz4, Option.bind_some, gR_emb, gN_emb, gL_emb, ↓reduceIte, if_true, if_false, not_true_eq_false, not_false_eq_true, eq_self, Nat.not_lt_zero, Nat.zero_le, true_or, or_true, false_or, or_false, true_and, and_true, false_and, and_false, e7]
    rw [if_neg (by omega), s1]
    simp only [Option.bind_some, bz_0]
    rw [show hfB C R a n W V D i (wkP C R a W V D i + j) = (! alikeB (wkN C R a W V D n) (xi (wkN C R a W V D n 22 (wkP C R a W V D i + j))) (findT (wkN C R a W V D i) (tot C) 17) && ! alikeB (wkN C R a W V D n) (xi (wkN C R a W V D n 22 (wkP C R a W V D i + j))) (findT (wkN C R a W V D (i + 1)) (tot C) 17)) from rfl] at ih2
    cases e1 : alikeB (wkN C R a W V D n) (xi (wkN C R a W V D n 22 (wkP C R a W V D i + j))) (findT (wkN C R a W V D i) (tot C) 17) with
    | true =>
      rw [e1] at ih2
      rw [if_pos (by decide)]
      exact ih2
    | false =>
      rw [e1] at ih2
      rw [if_neg (by decide), gR_mmb, gR_mmb, l12_0_23 h, l12_0_24 h, s2]
      simp only [Option.bind_some, bz_0]
      cases e2 : alikeB (wkN C R a W V D n) (xi (wkN C R a W V D n 22 (wkP C R a W V D i + j))) (findT (wkN C R a W V D (i + 1)) (tot C) 17) with
      | true =>
        rw [e2] at ih2
        rw [if_neg (by decide)]
        exact ih2
      | false =>
        rw [e2] at ih2
        rw [if_pos rfl]
        exact ih2
theorem t_halves13 (h : Lay M) (hB : CB C) (hE : InE (startT C D) 0 0) (hr : Ran C R a n W V D X M) (hW : WkAs n W V X) (hf : 1100 < fu) :
    L_X12_halves_13 fu fu 0 0 0 (mmb X M) = some (i3 (halfF C R a n W V D n), mmb X M) := by
  have hn := hW.2.1
  have e0 := hW.1
  refine lpc (fun l i x => L_X12_halves_13 fu l 0 x (i3 i) (mmb X M)) (fun i => i3 (halfF C R a n W V D i)) n _ ?_ ?_ fu 0 (by omega) (by omega)
  · intro l i hi
    show L_X12_halves_13 fu (l + 1) 0 (i3 (halfF C R a n W V D i)) (i3 i) (mmb X M) = L_X12_halves_13 fu l 0 (i3 (halfF C R a n W V D i + _)) (i3 (i + 1)) (mmb X M)
    have hmo := wkP_mono (R := R) (a := a) (W := W) (V := V) (i := i) (m := 1) hB hE (by omega)
    obtain ⟨hPl, -⟩ := wkP_le (R := R) (a := a) (W := W) (V := V) (n := i + 1) hB (by omega) hE
    have e7 := hr.1 i (by omega)
    have := t_halves32 (kk := L_X12_halves_13 fu l) (fu := fu) (x := halfF C R a n W V D i) (q := wkP C R a W V D (i + 1) - wkP C R a W V D i) h hB hn hE hr hi (by omega) (wkP C R a W V D (i + 1) - wkP C R a W V D i) 0 fu (by omega) (by omega)
    conv => lhs; unfold L_X12_halves_13
    simp (disch := first | assumption | omega) only [l12_0_1, l12_0_4, l12_0_5, l12_0_6, l12_0_9, l12_0_10, l12_0_11, l12_0_13, l12_0_14, l12_0_15, l12_0_16, l12_0_17, l12_0_18, l12_0_19, l12_0_23, l12_0_24, l12_0_25, l12_0_27, n20_83, n20_84, n20_85, n20_86, n20_87, n20_88, n20_89, n20_90, n20_91, n20_92, n20_93, n20_94, n20_95, n20_96, n20_97, n20_98, n21_2, n21_3, n21_4, n21_5, n21_6, n22_20, m_0, m_1, m_87, m_88, m_89, m_90, m_91, m_92, m_93, m_94, m_95, m_96, m_97, m_98, p_0, p_1, p_87, p_88, p_89, p_90, p_91, p_92, p_93, p_94, p_95, p_96, p_97, p_98, gR_mmb, gN_mmb, gL_mmb, i3_add1, i3_add, i3_mul, i3_addl, i3_mull, i3_ladd, i3_lmul, i3_div4, i3_le, i3_lt, i3_eq, i3_lel, i3_lle, i3_ltl, i3_llt, i3_eql, i3_leq, i3_nl, i3_0l, i3_nn, n1_lt, n1_le, xi_i3, xin_i3, xi_lit, xin_lit, xb0, xb1, gd_t, nz4, Option.bind_some, gR_emb, gN_emb, gL_emb, ↓reduceIte, if_true, if_false, not_true_eq_false, not_false_eq_true, eq_self, Nat.not_lt_zero, Nat.zero_le, true_or, or_true, false_or, or_false, true_and, and_true, false_and, and_false, e0, e7]
    rw [if_neg (by omega)]
    exact this
  · intro l
    show L_X12_halves_13 fu (l + 1) 0 (i3 (halfF C R a n W V D n)) (i3 n) (mmb X M) = _
    conv => lhs; unfold L_X12_halves_13
    simp (disch := first | assumption | omega) only [l12_0_1, l12_0_4, l12_0_5, l12_0_6, l12_0_9, l12_0_10, l12_0_11, l12_0_13, l12_0_14, l12_0_15, l12_0_16, l12_0_17, l12_0_18, l12_0_19, l12_0_23, l12_0_24, l12_0_25, l12_0_27, n20_83, n20_84, n20_85, n20_86, n20_87, n20_88, n20_89, n20_90, n20_91, n20_92, n20_93, n20_94, n20_95, n20_96, n20_97, n20_98, n21_2, n21_3, n21_4, n21_5, n21_6, n22_20, m_0, m_1, m_87, m_88, m_89, m_90, m_91, m_92, m_93, m_94, m_95, m_96, m_97, m_98, p_0, p_1, p_87, p_88, p_89, p_90, p_91, p_92, p_93, p_94, p_95, p_96, p_97, p_98, gR_mmb, gN_mmb, gL_mmb, i3_add1, i3_add, i3_mul, i3_addl, i3_mull, i3_ladd, i3_lmul, i3_div4, i3_le, i3_lt, i3_eq, i3_lel, i3_lle, i3_ltl, i3_llt, i3_eql, i3_leq, i3_nl, i3_0l, i3_nn, n1_lt, n1_le, xi_i3, xin_i3, xi_lit, xin_lit, xb0, xb1, gd_t, nz4, Option.bind_some, gR_emb, gN_emb, gL_emb, ↓reduceIte, if_true, if_false, not_true_eq_false, not_false_eq_true, eq_self, Nat.not_lt_zero, Nat.zero_le, true_or, or_true, false_or, or_false, true_and, and_true, false_and, and_false, e0]
    rw [if_pos (Nat.le_refl _)]
end
