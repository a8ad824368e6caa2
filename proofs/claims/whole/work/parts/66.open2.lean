/-! ===== open, close: both sides ===== -/
section
variable {M : xM} {D E X Y Z T X' E' E'' X'' : xT} {C : xC} {R N : Nat → Int32} {fu b d L s o t k n m i j p q f l w nb nw a : Nat} {x y z v u : Int32} {nt : Bool}
/-- what holds doesn't look at the bits, and pages may be unmapped -/
theorem Inv_unm (hI : Inv C L D) (h : ∀ j k', j ≠ 9 → j ≠ 10 → j ≠ 11 → j ≠ 12 → j ≠ 13 → (j ≠ 14 ∨ k' ≠ 11 ∧ k' ≠ 14 ∧ k' ≠ 15) → j < 25 → E j k' = D j k') (h9 : ∀ a, a < 20 → E 9 a = D 9 a ∨ E 9 a = 0) (hO2 : InO E) : Inv C L E := by
  obtain ⟨hO, hA, hN, hS, hM, hC, hOo, hIB⟩ := hI
  have e : ∀ j k', j ≠ 9 → j ≠ 10 → j ≠ 11 → j ≠ 12 → j ≠ 13 → j ≠ 14 → j < 25 → E j k' = D j k' := fun j k' h1 h2 h3 h4 h5 h6 h7 => h j k' h1 h2 h3 h4 h5 (Or.inl h6) h7
  have hls : lsN E = lsN D := by unfold lsN; rw [h 14 10 (by omega) (by omega) (by omega) (by omega) (by omega) (by omega) (by omega)]
  have hbs : bsN E = bsN D := by unfold bsN; rw [e 15 5 (by omega) (by omega) (by omega) (by omega) (by omega) (by omega) (by omega)]
  have hwp : wpN E = wpN D := by unfold wpN; rw [e 15 6 (by omega) (by omega) (by omega) (by omega) (by omega) (by omega) (by omega)]
  have e2 : ∀ t, E 2 t = D 2 t := fun t => e 2 t (by omega) (by omega) (by omega) (by omega) (by omega) (by omega) (by omega)
  have e3 : ∀ t, E 3 t = D 3 t := fun t => e 3 t (by omega) (by omega) (by omega) (by omega) (by omega) (by omega) (by omega)
  have e4 : ∀ t, E 4 t = D 4 t := fun t => e 4 t (by omega) (by omega) (by omega) (by omega) (by omega) (by omega) (by omega)
  have e5 : ∀ t, E 5 t = D 5 t := fun t => e 5 t (by omega) (by omega) (by omega) (by omega) (by omega) (by omega) (by omega)
  have e6 : ∀ t, E 6 t = D 6 t := fun t => e 6 t (by omega) (by omega) (by omega) (by omega) (by omega) (by omega) (by omega)
  have e7 : ∀ t, E 7 t = D 7 t := fun t => e 7 t (by omega) (by omega) (by omega) (by omega) (by omega) (by omega) (by omega)
  have e8 : ∀ t, E 8 t = D 8 t := fun t => e 8 t (by omega) (by omega) (by omega) (by omega) (by omega) (by omega) (by omega)
  have hsq : ∀ t, sq E t = sq D t := fun t => by unfold sq; rw [e3]
  have hpg : ∀ t, pgT E t = pgT D t := fun t => by unfold pgT; rw [e4, e5]
  have hA2 : ∀ n, eraA E (C 0 1) n = eraA D (C 0 1) n := by
    intro n
    induction n with
    | zero => rfl
    | succ n ih => show eraA E (C 0 1) n + eraN E (C 0 1) n (C 0 1) = _ + _; rw [ih]; congr 1; unfold eraN; exact cnt_congr (fun i hi => by rw [e2])
  refine ⟨Ok_congr hO (fun j k' q => e j k' (by omega) (by omega) (by omega) (by omega) (by omega) (by omega) (by omega)), ?_, fun t ht => node_congr (e2 t) (e3 t) (e4 t) (e5 t) (e6 t) (fun n _ => ⟨e7 _, e8 _⟩) (by rw [hls]; exact Nat.le_refl _) (hN t ht), ?_, fun a ha => ?_, ?_, hO2, ?_⟩
  · unfold InA at hA ⊢
    rw [hls, hbs, hwp, h 14 10 (by omega) (by omega) (by omega) (by omega) (by omega) (by omega) (by omega), e 15 5 (by omega) (by omega) (by omega) (by omega) (by omega) (by omega) (by omega), e 15 6 (by omega) (by omega) (by omega) (by omega) (by omega) (by omega) (by omega)]
    exact hA
  · unfold InS isN at hS ⊢
    simp only [e2, e3, e4, e5, e6, e7, e8]
    exact hS
  · obtain ⟨m1, m2, m3⟩ := hM a ha
    rcases h9 a ha with q | q
    · rw [q, hls]
      refine ⟨m1, m2, fun t ht hk he => ?_⟩
      rw [e2] at hk
      rw [e3] at he
      rw [hpg]; exact m3 t ht hk he
    · rw [q]
      refine ⟨rfl, Nat.zero_le _, fun t ht hk he => ?_⟩
      rw [e2] at hk
      rw [e3] at he
      have g := node_seq (hN t ht) (Or.inl hk)
      rw [g.1] at he
      have g0 := (i3_eq (a := 0) (by omega) (xi_lt _)).mp he
      have g5 : sq D t = xi (D 3 t) := rfl
      omega
  · unfold InC at hC ⊢
    simp only [e2, e3, e4, e5, e6, e7, e8, hbs, hwp, hsq, hpg]
    exact hC
  · unfold InB at hIB ⊢
    simp only [hA2, e2, e 15 3 (by omega) (by omega) (by omega) (by omega) (by omega) (by omega) (by omega), e 15 4 (by omega) (by omega) (by omega) (by omega) (by omega) (by omega) (by omega), fun k' => e 1 k' (by omega) (by omega) (by omega) (by omega) (by omega) (by omega) (by omega)]
    exact hIB
theorem Inv_open (hI : Inv C L D) (hc : C 0 3 ≤ 5) : Inv C L (openT C D x).2 := by
  unfold openT
  split
  · rename_i c
    simp only [Bool.and_eq_true] at c
    obtain ⟨f, hf, rfl⟩ := isFile_ex c.2.1 hc
    rw [xi_i3 (by omega)]
    show Inv C L (up D 11 f 1)
    refine Inv_unm hI (fun j k' h1 h2 h3 h4 h5 h6 h7 => up_ne (by omega)) (fun a ha => Or.inl (up_ne (by omega))) ?_
    obtain ⟨o1, o2, o3⟩ := hI.2.2.2.2.2.2.1
    refine ⟨by rw [up_ne (by omega)]; exact o1, by rw [up_ne (by omega)]; exact o2, fun g hg => ?_⟩
    rw [up_ne (j' := 12) (by omega)]
    by_cases e : g = f
    · rw [e, up_eq]; exact ⟨Or.inr rfl, (o3 f (by omega)).2.1, fun _ => rfl⟩
    · rw [up_ne (by omega)]; exact o3 g hg
  · exact hI
theorem Inv_close (hI : Inv C L D) (hc : C 0 3 ≤ 5) : Inv C L (closeT C D x).2 := by
  unfold closeT
  split
  · rename_i c
    simp only [Bool.and_eq_true] at c
    obtain ⟨f, hf, rfl⟩ := isFile_ex c.2.1 hc
    rw [xi_i3 (by omega)]
    obtain ⟨o1, o2, o3⟩ := hI.2.2.2.2.2.2.1
    simp only
    by_cases c2 : D 12 f = 0
    · rw [if_pos c2]
      show Inv C L (up D 11 f 0)
      refine Inv_unm hI (fun j k' h1 h2 h3 h4 h5 h6 h7 => up_ne (by omega)) (fun a ha => Or.inl (up_ne (by omega))) ?_
      refine ⟨by rw [up_ne (by omega)]; exact o1, by rw [up_ne (by omega)]; exact o2, fun g hg => ?_⟩
      rw [up_ne (j' := 12) (by omega)]
      by_cases e : g = f
      · rw [e, up_eq]; exact ⟨Or.inl rfl, (o3 f (by omega)).2.1, fun q => by rw [c2] at q; exact absurd q (by decide)⟩
      · rw [up_ne (by omega)]; exact o3 g hg
    · rw [if_neg c2]
      show Inv C L (unmapT (up (up D 11 f 0) 12 f 0) f)
      refine Inv_unm hI (fun j k' h1 h2 h3 h4 h5 h6 h7 => ?_) (fun a ha => ?_) ?_
      · rw [unmapT_lo (by omega), up_ne (by omega), up_ne (by omega)]
      · by_cases e : f * 4 ≤ a ∧ a < f * 4 + 4
        · right; unfold unmapT; rw [if_pos ⟨rfl, e⟩]
        · left; unfold unmapT; rw [if_neg (by omega), if_neg (by omega), up_ne (by omega), up_ne (by omega)]
      · refine ⟨by rw [unmapT_lo (by omega), up_ne (by omega), up_ne (by omega)]; exact o1, by rw [unmapT_lo (by omega), up_ne (by omega), up_ne (by omega)]; exact o2, fun g hg => ?_⟩
        rw [unmapT_lo (by omega), unmapT_lo (by omega)]
        by_cases e : g = f
        · rw [e, up_ne (j' := 11) (by omega), up_eq, up_eq]; exact ⟨Or.inl rfl, Or.inl rfl, fun q => absurd q (by decide)⟩
        · rw [up_ne (j' := 11) (by omega), up_ne (by omega), up_ne (by omega), up_ne (by omega)]; exact o3 g hg
  · exact hI
theorem Fm_95 (h : ∀ j k, j ≠ 95 → X' j k = X j k) (h2 : ∀ k, k < b ∨ b + 502 ≤ k → X' 95 k = X 95 k) : Fm b X X' := ⟨fun j k _ _ _ h4 _ => h j k h4, h2, fun b' _ _ e => by rw [h 0 22 (by decide)] at e; exact ⟨e, h 0 20 (by decide), h 0 21 (by decide)⟩⟩
theorem t_open (h : Lay M) (hM : MCfg C X) (hb : b ≤ 2140) (hB : CB C) (hR : Rel C b D X) (hI : Inv C L D) (hf : 100 < fu) :
    ∃ X', F_X12_opens fu 0 (i3 b) x 1 (mmb X M) = some (bz (openT C D x).1, mmb X' M) ∧ Rel C b (openT C D x).2 X' ∧ (∀ j k, j ≠ 95 → X' j k = X j k) ∧ (∀ k, k < b ∨ b + 502 ≤ k → X' 95 k = X 95 k) ∧ X' 95 (b + 6) = X 95 (b + 6) := by
  have c4 := hB.2.2.2.1
  have r2 := hR.2.2.1
  obtain ⟨o1, o2, o3⟩ := hI.2.2.2.2.2.2.1
  unfold F_X12_opens openT
  simp (disch := first | assumption | omega) only [l12_0_1, l12_0_4, l12_0_5, l12_0_6, l12_0_9, l12_0_10, l12_0_11, l12_0_13, l12_0_14, l12_0_15, l12_0_16, l12_0_17, l12_0_18, l12_0_19, l12_0_23, l12_0_24, l12_0_25, l12_0_27, n20_83, n20_84, n20_85, n20_86, n20_87, n20_88, n20_89, n20_90, n20_91, n20_92, n20_93, n20_94, n20_95, n20_96, n20_97, n20_98, n21_2, n21_3, n21_4, n21_5, n21_6, n22_20, m_0, m_1, m_87, m_88, m_89, m_90, m_91, m_92, m_93, m_94, m_95, m_96, m_97, m_98, p_0, p_1, p_87, p_88, p_89, p_90, p_91, p_92, p_93, p_94, p_95, p_96, p_97, p_98, gR_mmb, gN_mmb, gL_mmb, i3_add1, i3_add, i3_mul, i3_addl, i3_mull, i3_ladd, i3_lmul, i3_div4, i3_le, i3_lt, i3_eq, i3_lel, i3_lle, i3_ltl, i3_llt, i3_eql, i3_leq, i3_nl, i3_0l, i3_nn, n1_lt, n1_le, xi_i3, xin_i3, xi_lit, xin_lit, xb0, xb1, gd_t, nz4, Option.bind_some, gR_emb, gN_emb, gL_emb, ↓reduceIte, if_true, if_false, not_true_eq_false, not_false_eq_true, eq_self, Nat.not_lt_zero, Nat.zero_le, true_or, or_true, false_or, or_false, true_and, and_true, false_and, and_false, r2]
  by_cases c : D 14 1 = 0
  · rw [if_pos c]
    exact ⟨X, by simp [c, bz], by simp only [c, decide_true, Bool.not_true, Bool.false_and, Bool.false_eq_true, if_false]; exact hR, fun _ _ _ => rfl, fun _ _ => rfl, rfl⟩
  · rw [if_neg c, t_isFile h hM hB, Option.bind_some]
    simp only [c, decide_false, Bool.not_false, Bool.true_and]
    cases e : isFileB C x with
    | false => exact ⟨X, by simp [bz], by simpa using hR, fun _ _ _ => rfl, fun _ _ => rfl, rfl⟩
    | true =>
      obtain ⟨f, hf', rfl⟩ := isFile_ex e c4
      have hf5 : f < 5 := by omega
      rw [if_neg (show ¬ (bz true, mmb X M).1 = 0 from (by decide : ¬ bz true = 0)), t_isOpen h hb hR hf5, Option.bind_some, xi_i3 (by omega)]
      simp only [Bool.true_and]
      rcases (o3 f hf5).1 with w1 | w1
      · have w12 : D 12 f = 0 := by
          rcases (o3 f hf5).2.1 with q | q
          · exact q
          · have := (o3 f hf5).2.2 q
            rw [w1] at this; exact absurd this (by decide)
        have hR2 : Rel C b (up D 11 f 1) (up X 95 (b + 4) (X 95 (b + 4) ^^^ (1 <<< (i3 f &&& 31)))) := Rel_open hR (bits_xor hR.2.2.2.2.1 hf5 (fun k hk hne => up_ne (by omega)) (Or.inl ⟨w1, up_eq⟩))
        refine ⟨up X 95 (b + 4) (X 95 (b + 4) ^^^ (1 <<< (i3 f &&& 31))), ?_, by rw [w1]; exact hR2, fun j k hj => up_ne (by omega), fun k hk => up_ne (by omega), up_ne (by omega)⟩
        rw [if_pos (by rw [w1]; decide)]
        simp (disch := first | assumption | omega) only [l12_0_1, l12_0_4, l12_0_5, l12_0_6, l12_0_9, l12_0_10, l12_0_11, l12_0_13, l12_0_14, l12_0_15, l12_0_16, l12_0_17, l12_0_18, l12_0_19, l12_0_23, l12_0_24, l12_0_25, l12_0_27, n20_83, n20_84, n20_85, n20_86, n20_87, n20_88, n20_89, n20_90, n20_91, n20_92, n20_93, n20_94, n20_95, n20_96, n20_97, n20_98, n21_2, n21_3, n21_4, n21_5, n21_6, n22_20, m_0, m_1, m_87, m_88, m_89, m_90, m_91, m_92, m_93, m_94, m_95, m_96, m_97, m_98, p_0, p_1, p_87, p_88, p_89, p_90, p_91, p_92, p_93, p_94, p_95, p_96, p_97, p_98, gR_mmb, gN_mmb, gL_mmb, i3_add1, i3_add, i3_mul, i3_addl, i3_mull, i3_ladd, i3_lmul, i3_div4, i3_le, i3_lt, i3_eq, i3_lel, i3_lle, i3_ltl, i3_llt, i3_eql, i3_leq, i3_nl, i3_0l, i3_nn, n1_lt, n1_le, xi_i3, xin_i3, xi_lit, xin_lit, xb0, xb1, gd_t, nz4, Option.bind_some, gR_emb, gN_emb, gL_emb, ↓reduceIte, if_true, if_false, not_true_eq_false, not_false_eq_true, eq_self, Nat.not_lt_zero, Nat.zero_le, true_or, or_true, false_or, or_false, true_and, and_true, false_and, and_false]
        rw [t_isOrphan h hb hR2 hf5, Option.bind_some, up_ne (by omega), w12, if_pos rfl, w1]
        rfl
      · refine ⟨X, ?_, ?_, fun _ _ _ => rfl, fun _ _ => rfl, rfl⟩
        · rw [if_neg (by rw [w1]; exact fun q => q rfl), w1]; rfl
        · rw [w1]; exact hR
theorem t_close (h : Lay M) (hM : MCfg C X) (hb : b ≤ 2140) (hB : CB C) (hR : Rel C b D X) (hI : Inv C L D) (hf : 100 < fu) :
    ∃ X', F_X12_opens fu 0 (i3 b) x 0 (mmb X M) = some (bz (closeT C D x).1, mmb X' M) ∧ Rel C b (closeT C D x).2 X' ∧ (∀ j k, j ≠ 95 → X' j k = X j k) ∧ (∀ k, k < b ∨ b + 502 ≤ k → X' 95 k = X 95 k) ∧ X' 95 (b + 6) = X 95 (b + 6) := by
  have c4 := hB.2.2.2.1
  have r2 := hR.2.2.1
  obtain ⟨o1, o2, o3⟩ := hI.2.2.2.2.2.2.1
  unfold F_X12_opens closeT
  simp (disch := first | assumption | omega) only [l12_0_1, l12_0_4, l12_0_5, l12_0_6, l12_0_9, l12_0_10, l12_0_11, l12_0_13, l12_0_14, l12_0_15, l12_0_16, l12_0_17, l12_0_18, l12_0_19, l12_0_23, l12_0_24, l12_0_25, l12_0_27, n20_83, n20_84, n20_85, n20_86, n20_87, n20_88, n20_89, n20_90, n20_91, n20_92, n20_93, n20_94, n20_95, n20_96, n20_97, n20_98, n21_2, n21_3, n21_4, n21_5, n21_6, n22_20, m_0, m_1, m_87, m_88, m_89, m_90, m_91, m_92, m_93, m_94, m_95, m_96, m_97, m_98, p_0, p_1, p_87, p_88, p_89, p_90, p_91, p_92, p_93, p_94, p_95, p_96, p_97, p_98, gR_mmb, gN_mmb, gL_mmb, i3_add1, i3_add, i3_mul, i3_addl, i3_mull, i3_ladd, i3_lmul, i3_div4, i3_le, i3_lt, i3_eq, i3_lel, i3_lle, i3_ltl, i3_llt, i3_eql, i3_leq, i3_nl, i3_0l, i3_nn, n1_lt, n1_le, xi_i3, xin_i3, xi_lit, xin_lit, xb0, xb1, gd_t, nz4, Option.bind_some, gR_emb, gN_emb, gL_emb, ↓reduceIte, if_true, if_false, not_true_eq_false, not_false_eq_true, eq_self, Nat.not_lt_zero, Nat.zero_le, true_or, or_true, false_or, or_false, true_and, and_true, false_and, and_false, r2]
  by_cases c : D 14 1 = 0
  · rw [if_pos c]
    exact ⟨X, by simp [c, bz], by simp only [c, decide_true, Bool.not_true, Bool.false_and, Bool.false_eq_true, if_false]; exact hR, fun _ _ _ => rfl, fun _ _ => rfl, rfl⟩
  · rw [if_neg c, t_isFile h hM hB, Option.bind_some]
    simp only [c, decide_false, Bool.not_false, Bool.true_and]
    cases e : isFileB C x with
    | false => exact ⟨X, by simp [bz], by simpa using hR, fun _ _ _ => rfl, fun _ _ => rfl, rfl⟩
    | true =>
      obtain ⟨f, hf', rfl⟩ := isFile_ex e c4
      have hf5 : f < 5 := by omega
      rw [if_neg (show ¬ (bz true, mmb X M).1 = 0 from (by decide : ¬ bz true = 0)), t_isOpen h hb hR hf5, Option.bind_some, xi_i3 (by omega)]
      simp only [Bool.true_and]
      rcases (o3 f hf5).1 with w1 | w1
      · refine ⟨X, ?_, ?_, fun _ _ _ => rfl, fun _ _ => rfl, rfl⟩
        · rw [if_neg (by rw [w1]; exact fun q => q rfl), w1]; rfl
        · rw [w1]; exact hR
      · have hR2 : Rel C b (up D 11 f 0) (up X 95 (b + 4) (X 95 (b + 4) ^^^ (1 <<< (i3 f &&& 31)))) := Rel_open hR (bits_xor hR.2.2.2.2.1 hf5 (fun k hk hne => up_ne (by omega)) (Or.inr ⟨w1, up_eq⟩))
        have t1 : (! decide ((1 : Int32) = 0)) = true := by decide
        rw [if_pos (by rw [w1]; decide)]
        simp (disch := first | assumption | omega) only [l12_0_1, l12_0_4, l12_0_5, l12_0_6, l12_0_9, l12_0_10, l12_0_11, l12_0_13, l12_0_14, l12_0_15, l12_0_16, l12_0_17, l12_0_18, l12_0_19, l12_0_23, l12_0_24, l12_0_25, l12_0_27, n20_83, n20_84, n20_85, n20_86, n20_87, n20_88, n20_89, n20_90, n20_91, n20_92, n20_93, n20_94, n20_95, n20_96, n20_97, n20_98, n21_2, n21_3, n21_4, n21_5, n21_6, n22_20, m_0, m_1, m_87, m_88, m_89, m_90, m_91, m_92, m_93, m_94, m_95, m_96, m_97, m_98, p_0, p_1, p_87, p_88, p_89, p_90, p_91, p_92, p_93, p_94, p_95, p_96, p_97, p_98, gR_mmb, gN_mmb, gL_mmb, i3_add1, i3_add, i3_mul, i3_addl, i3_mull, i3_ladd, i3_lmul, i3_div4, i3_le, i3_lt, i3_eq, i3_lel, i3_lle, i3_ltl, i3_llt, i3_eql, i3_leq, i3_nl, i3_0l, i3_nn, n1_lt, n1_le, xi_i3, xin_i3, xi_lit, xin_lit, xb0, xb1, gd_t, nz4, Option.bind_some, gR_emb, gN_emb, gL_emb, ↓reduceIte, if_true, if_false, not_true_eq_false, not_false_eq_true, eq_self, Nat.not_lt_zero, Nat.zero_le, true_or, or_true, false_or, or_false, true_and, and_true, false_and, and_false]
        rw [t_isOrphan h hb hR2 hf5, Option.bind_some, up_ne (j := 11) (j' := 12) (by omega), w1, t1]
        simp only [if_true]
        rcases (o3 f hf5).2.1 with w2 | w2
        · rw [w2, if_pos rfl, if_pos rfl]
          exact ⟨_, rfl, hR2, fun j k hj => up_ne (by omega), fun k hk => up_ne (by omega), up_ne (by omega)⟩
        · rw [w2, if_neg (by decide), if_neg (by decide)]
          have hR3 : Rel C b (up (up D 11 f 0) 12 f 0) (up (up X 95 (b + 4) (X 95 (b + 4) ^^^ (1 <<< (i3 f &&& 31)))) 95 (b + 5) (up X 95 (b + 4) (X 95 (b + 4) ^^^ (1 <<< (i3 f &&& 31))) 95 (b + 5) &&& ((1 <<< (i3 f &&& 31)) ^^^ (-1)))) := Rel_orph hR2 (bits_clr hR2.2.2.2.2.2.1 hf5 (fun k hk hne => up_ne (by omega)) up_eq)
          have hR4 := Rel_unmap hR3 hf5
          simp (disch := first | assumption | omega) only [l12_0_1, l12_0_4, l12_0_5, l12_0_6, l12_0_9, l12_0_10, l12_0_11, l12_0_13, l12_0_14, l12_0_15, l12_0_16, l12_0_17, l12_0_18, l12_0_19, l12_0_23, l12_0_24, l12_0_25, l12_0_27, n20_83, n20_84, n20_85, n20_86, n20_87, n20_88, n20_89, n20_90, n20_91, n20_92, n20_93, n20_94, n20_95, n20_96, n20_97, n20_98, n21_2, n21_3, n21_4, n21_5, n21_6, n22_20, m_0, m_1, m_87, m_88, m_89, m_90, m_91, m_92, m_93, m_94, m_95, m_96, m_97, m_98, p_0, p_1, p_87, p_88, p_89, p_90, p_91, p_92, p_93, p_94, p_95, p_96, p_97, p_98, gR_mmb, gN_mmb, gL_mmb, i3_add1, i3_add, i3_mul, i3_addl, i3_mull, i3_ladd, i3_lmul, i3_div4, i3_le, i3_lt, i3_eq, i3_lel, i3_lle, i3_ltl, i3_llt, i3_eql, i3_leq, i3_nl, i3_0l, i3_nn, n1_lt, n1_le, xi_i3, xin_i3, xi_lit, xin_lit, xb0, xb1, gd_t, nz4, Option.bind_some, gR_emb, gN_emb, gL_emb, ↓reduceIte, if_true, if_false, not_true_eq_false, not_false_eq_true, eq_self, Nat.not_lt_zero, Nat.zero_le, true_or, or_true, false_or, or_false, true_and, and_true, false_and, and_false]
          rw [t_unmaps h hb hf5 hf, Option.bind_some]
          exact ⟨_, rfl, hR4, fun j k hj => by rw [unmX_o (by omega), up_ne (by omega), up_ne (by omega)], fun k hk => by rw [unmX_o (by omega), up_ne (by omega), up_ne (by omega)], by rw [unmX_o (by omega), up_ne (by omega), up_ne (by omega)]⟩
end
