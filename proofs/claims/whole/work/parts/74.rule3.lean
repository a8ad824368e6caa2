/-! ===== the law of collects, in the reference ===== -/
section
variable {M : xM} {D E X Y Z T P X' E' E'' X'' : xT} {C : xC} {R N : Nat → Int32} {fu b d L L' s o t k n m i j p q f l w nb nw a at' : Nat} {x y z v u c : Int32} {nt : Bool}
theorem hgt_s : hgt R (i + 1) = if ¬ R i ≤ -5 then hgt R i + 1 else if R i = -5 then hgt R i else hgt R i - 1 := rfl
theorem valF_hgt {n : Nat} (hR : ∀ i, i < n → (¬ R i ≤ -5 → hgt R i < 32) ∧ (R i = -5 → 0 < hgt R i) ∧ (¬ (-5 : Int32) ≤ R i → 1 < hgt R i)) : ∀ i, i ≤ n → (valF a R E i).1 = hgt R i
  | 0, _ => rfl
  | i + 1, hi => by
    have ih := valF_hgt hR i (by omega)
    obtain ⟨h1, h2, h3⟩ := hR i (by omega)
    rw [hgt_s]
    show (valS a (R i) (valF a R E i)).1 = _
    unfold valS
    rw [ih]
    by_cases c1 : ¬ R i ≤ -5
    · rw [if_pos ⟨c1, h1 c1⟩, if_pos c1]
    · rw [if_neg (fun q => c1 q.1), if_neg c1]
      by_cases c2 : R i = -5
      · rw [if_pos ⟨c2, h2 c2⟩, if_pos c2]
      · rw [if_neg (fun q => c2 q.1), if_neg c2]
        have c3 : ¬ (-5 : Int32) ≤ R i := fun q => c1 (fun r => c2 (Int32.toInt_inj.mp (by have := Int32.le_iff_toInt_le.mp q; have := Int32.le_iff_toInt_le.mp r; omega)))
        rw [if_pos ⟨c3, h3 c3⟩]
theorem valF_s : valF a R E (i + 1) = valS a (R i) (valF a R E i) := rfl
theorem zcode : (0 : Int32) - 0 / 16 * 16 = 0 := by decide
theorem t_worthEnd (h : Lay M) (hx : Y 91 q = 0) (hz : Y 94 0 = v) (hq : q < 2200) : L_X12_worthAt_4 fu (l + 1) 0 x (i3 q) (mmb Y M) = some (v, mmb Y M) := by
  have e : Y 91 q - Y 91 q / 16 * 16 = 0 := by rw [hx]; exact zcode
  conv => lhs; unfold L_X12_worthAt_4
  simp (disch := first | assumption | omega) only [l12_0_1, l12_0_4, l12_0_5, l12_0_6, l12_0_9, l12_0_10, l12_0_11, l12_0_13, l12_0_14, l12_0_15, l12_0_16, l12_0_17, l12_0_18, l12_0_19, l12_0_23, l12_0_24, l12_0_25, l12_0_27, n20_83, n20_84, n20_85, n20_86, n20_87, n20_88, n20_89, n20_90, n20_91, n20_92, n20_93, n20_94, n20_95, n20_96, n20_97, n20_98, n21_2, n21_3, n21_4, n21_5, n21_6, n22_20, m_0, m_1, m_87, m_88, m_89, m_90, m_91, m_92, m_93, m_94, m_95, m_96, m_97, m_98, p_0, p_1, p_87, p_88, p_89, p_90, p_91, p_92, p_93, p_94, p_95, p_96, p_97, p_98, gR_mmb, gN_mmb, gL_mmb, i3_add1, i3_add, i3_mul, i3_addl, i3_mull, i3_ladd, i3_lmul, i3_div4, i3_le, i3_lt, i3_eq, i3_lel, i3_lle, i3_ltl, i3_llt, i3_eql, i3_leq, i3_nl, i3_0l, i3_nn, n1_lt, n1_le, xi_i3, xin_i3, xi_lit, xin_lit, xb0, xb1, gd_t, nz4, Option.bind_some, gR_emb, gN_emb, gL_emb, ↓reduceIte, if_true, if_false, not_true_eq_false, not_false_eq_true, eq_self, Nat.not_lt_zero, Nat.zero_le, true_or, or_true, false_or, or_false, true_and, and_true, false_and, and_false, nz16]
  rw [if_pos e, hz]
theorem t_worthLoop (h : Lay M) (hN : p + n < 2200) (hcd : ∀ i, i < n → codeOf (R i) (X 91 (p + i))) (h0 : X 91 (p + n) = 0) (hR : ∀ i, i < n → (¬ R i ≤ -5 → hgt R i < 32) ∧ (R i = -5 → 0 < hgt R i) ∧ (¬ (-5 : Int32) ≤ R i → 1 < hgt R i)) (h1 : hgt R n = 1) :
    ∀ m i l Y, i + m = n → m < l → PAg a (valF a R E i).2 Y (valF a R E i).1 → (∀ k, Y 91 k = X 91 k) →
    ∃ Y', L_X12_worthAt_4 fu l 0 (i3 (valF a R E i).1) (i3 (p + i)) (mmb Y M) = some ((valF a R E n).2 (25 + 2 * a) 0, mmb Y' M) ∧ ∀ j k, j ≠ 94 → Y' j k = Y j k := by
  intro m
  induction m with
  | zero =>
    intro i l Y e hl hA h91
    obtain ⟨l, rfl⟩ : ∃ r, l = r + 1 := ⟨l - 1, by omega⟩
    have e' : i = n := by omega
    subst e'
    have hx : Y 91 (p + i) = 0 := by rw [h91, h0]
    have hz : Y 94 0 = (valF a R E i).2 (25 + 2 * a) 0 := hA.1 0 (by rw [valF_hgt hR i (Nat.le_refl _), h1]; decide)
    exact ⟨Y, t_worthEnd h hx hz hN, fun _ _ _ => rfl⟩
  | succ m ih =>
    intro i l Y e hl hA h91
    obtain ⟨l, rfl⟩ : ∃ r, l = r + 1 := ⟨l - 1, by omega⟩
    have hi : i < n := by omega
    have hh := valF_hgt (a := a) (E := E) hR i (by omega)
    obtain ⟨r1, r2, r3⟩ := hR i hi
    rw [← hh] at r1 r2 r3
    obtain ⟨Y1, q1, q2, q3⟩ := t_worthStep (fu := fu) (n := l) (q := p + i) (E := (valF a R E i).2) (t := (valF a R E i).1) h (hcd i hi) (h91 _) (by omega) (valF_le a R E i) r1 r2 r3 hA
    rw [← valF_s, Nat.add_assoc p i 1] at q1
    rw [← valF_s] at q3
    obtain ⟨Y2, w1, w2⟩ := ih (i + 1) l Y1 (by omega) (by omega) q3 (fun k => (q2 91 k (by decide)).trans (h91 k))
    refine ⟨Y2, ?_, fun j k hj => (w2 j k hj).trans (q2 j k hj)⟩
    rw [q1]
    exact w1
theorem t_worthAt (h : Lay M) (hf : 1100 < fu) (hR : RuleAs C R X) (hn : C 0 4 ≤ 1000) (h4 : ¬ C 0 4 = 0) (hA : ∀ k, k < 4 → X 93 k = E (26 + 2 * a) k) :
    ∃ X', F_X12_worthAt fu 0 (X 90 4) (mmb X M) = some ((valT a (C 0 4) R E).1, mmb X' M) ∧ ∀ j k, j ≠ 94 → X' j k = X j k := by
  rcases hR with ⟨q, -⟩ | ⟨-, p, hp, hx, hcd, h0, hhs, hh⟩
  · exact absurd q h4
  have hv : (valF a R E (C 0 4)).1 = 1 := (valF_hgt hhs _ (Nat.le_refl _)).trans hh
  obtain ⟨Y', q1, q2⟩ := t_worthLoop (fu := fu) (a := a) (E := E) (M := M) h (show p + C 0 4 < 2200 by omega) hcd h0 hhs hh (C 0 4) 0 fu X (by omega) (by omega) ⟨fun k hk => absurd hk (Nat.not_lt_zero _), hA⟩ (fun _ => rfl)
  refine ⟨Y', ?_, q2⟩
  unfold F_X12_worthAt valT
  rw [hv, if_neg (by decide), hx]
  exact q1
theorem RuleAs_fm (h : RuleAs C R X) (h0 : X' 90 4 = X 90 4) (h1 : ∀ k, X' 91 k = X 91 k) : RuleAs C R X' := by
  unfold RuleAs at h ⊢
  simp only [h0, h1]
  exact h
theorem eraA_cnt : ∀ n, eraA D nw n = cnt (tlB D 0) (n * nw)
  | 0 => by rw [Nat.zero_mul]; rfl
  | n + 1 => by
    rw [Nat.succ_mul, cnt_add, ← eraA_cnt n]
    rfl
theorem surv_14 (hB : CB C) (hV : InV C D) : surveyT D (C 0 0) (C 0 1) 14 14 = i3 (cnt (liveB D) (tot C)) := by
  rw [(survT_ok hB hV).1, live_surv]
theorem surv_15 (hB : CB C) (hV : InV C D) : surveyT D (C 0 0) (C 0 1) 14 15 = i3 (cnt (jourB D) (tot C)) := by
  rw [(survT_ok hB hV).2.1]
  congr 2
  exact funext (same_jourB (fun j k a b c => surveyT_lo (by omega)))
end
