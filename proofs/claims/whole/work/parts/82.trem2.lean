/-! ===== remove: both sides, whole ===== -/
section
variable {M : xM} {D E X Y Z T P X' E' E0 E'' X'' : xT} {C : xC} {R N : Nat → Int32} {fu b d L L' s o t k n m i j p q f l w nb nw a at' r g : Nat} {x y z v u c : Int32} {nt : Bool}
theorem remB_he (hB : CB C) (hI : Inv C L E) (hc : i3 (1 + ((keptN E - mapN E f) / 4 + 1) + C 0 2) ≤ E 15 3) : ¬ E 15 3 = 0 := by
  have hk := keptN_le E
  have h8 := hB.2.2.1
  intro q
  rw [q] at hc
  have := (i3_le (b := 0) (by omega) (by omega)).mp hc
  omega
theorem unm_11 : unmapT D f 14 11 = 0 := by unfold unmapT; rw [if_neg (by omega), if_pos ⟨rfl, rfl⟩]
theorem orph_11 : up D 12 f v 14 11 = D 14 11 := up_ne (by omega)
theorem Inv_remB (hB : CB C) (hI : Inv C L D) (hV : InV C D) (hL : L + 8 < 1000000) (hf : f < C 0 3) (nt : Bool) : Inv C (L + 8) (remB C nt f D).2 ∧ InV C (remB C nt f D).2 := by
  have c5 := hB.2.2.2.1
  unfold remB
  by_cases hc : i3 (1 + ((keptN D - mapN D f) / 4 + 1) + C 0 2) ≤ D 15 3
  · rw [if_pos hc]
    have he := remB_he hB hI hc
    have hI2 := Inv_putNew (nt := nt) (f := f) (x := 2) (y := -1) (z := -1) hB hI (by omega) he (Or.inr ⟨rfl, hf, rfl, rfl⟩)
    simp only
    rcases putNew_is (nt := nt) (x := 2) (y := i3 f) (z := -1) (v := -1) hB hI (by omega) he with ⟨e1, e2, e3⟩ | ⟨e1, e2, s, hs, -, g1, -⟩
    · rw [e1]
      exact ⟨Inv_le hI2 (by omega) (by omega), Or.inl e3⟩
    · rw [e1, if_pos rfl]
      by_cases c2 : (putNewT nt D (C 0 0) (C 0 1) 2 (i3 f) (-1) (-1)).2 11 f = 0
      · rw [if_pos c2]
        exact ⟨Inv_le (Inv_unmapT hI2) (by omega) (by omega), Or.inl (unm_11 (D := (putNewT nt D (C 0 0) (C 0 1) 2 (i3 f) (-1) (-1)).2) (f := f))⟩
      · rw [if_neg c2]
        exact ⟨Inv_le (Inv_orph hI2 (by omega) c2) (by omega) (by omega), Or.inl ((orph_11 (D := (putNewT nt D (C 0 0) (C 0 1) 2 (i3 f) (-1) (-1)).2) (f := f) (v := 1)).trans g1)⟩
  · rw [if_neg hc]
    exact ⟨Inv_le hI (by omega) (by omega), hV⟩
theorem Po_unmap (hR : Rel C b D X) (hM : MCfg C X) (hL : X 0 22 = i3 b → Lk D X) (hb : b ≤ 2140) (hf : f < 5) : Po nt b C D (unmapT D f) X (unmX X b f) :=
  ⟨Rel_unmap hR hf, MCfg_90 hM (fun k' => unmX_o (by omega)), Fm_95 (fun j k hj => unmX_o (by omega)) (fun k hk => unmX_o (by omega)), fun e => by
    rw [unmX_o (by omega)] at e
    have := Lk_cg (E := unmapT D f) (hL e) (unmapT_lo (by omega)) (unmapT_lo (by omega))
    exact ⟨(unmX_o (by omega)).trans this.1, (unmX_o (by omega)).trans this.2⟩, Pc_rf (unmX_o (by omega)) (unmapT_lo (by omega))⟩
theorem Po_orph (hR : Rel C b D X) (hM : MCfg C X) (hL : X 0 22 = i3 b → Lk D X) (hb : b ≤ 2140) (hg : bitsAs y (up D 12 f v 12)) : Po nt b C D (up D 12 f v) X (up X 95 (b + 5) y) :=
  ⟨Rel_orph hR hg, MCfg_90 hM (fun k' => up_ne (by omega)), Fm_95 (fun j k hj => up_ne (by omega)) (fun k hk => up_ne (by omega)), fun e => by
    rw [up_ne (by omega)] at e
    have := Lk_cg (E := up D 12 f v) (hL e) (up_ne (by omega)) (up_ne (by omega))
    exact ⟨(up_ne (by omega)).trans this.1, (up_ne (by omega)).trans this.2⟩, Pc_rf (up_ne (by omega)) (up_ne (by omega))⟩
theorem remT_is (hB : CB C) (hm : (! decide (D 14 1 = 0) && (isFileB C x && (decide (D 12 (xi x) = 0) && ! decide (bitsN D (xi x) = 0)))) = true) : ∃ f, f < C 0 3 ∧ x = i3 f ∧ ¬ D 14 1 = 0 ∧ D 12 f = 0 ∧ ¬ bitsN D f = 0 := by
  have c5 := hB.2.2.2.1
  simp only [Bool.and_eq_true, Bool.not_eq_true', decide_eq_false_iff_not, decide_eq_true_eq] at hm
  obtain ⟨f, hf, rfl⟩ := isFile_ex hm.2.1 c5
  rw [xi_i3 (by omega)] at hm
  exact ⟨f, hf, rfl, hm.1, hm.2.2.1, hm.2.2.2⟩
theorem Inv_remove (hB : CB C) (hI : Inv C L D) (hV : InV C D) (hL : L + 8 < 1000000) (nt : Bool) : Inv C (L + 8) (removeT C R a nt D x).2 ∧ InV C (removeT C R a nt D x).2 := by
  have hF := Inv_first (R := R) (a := a) hB hI hV nt
  have c5 := hB.2.2.2.1
  unfold removeT
  split
  · rename_i hc
    obtain ⟨f, hf, rfl, -⟩ := remT_is hB hc
    split
    · exact ⟨Inv_le hF.1 (by omega) (by omega), hF.2⟩
    · rw [xi_i3 (by omega)]
      exact Inv_remB hB hF.1 hF.2 hL hf nt
  · exact ⟨Inv_le hI (by omega) (by omega), hV⟩
theorem dec4 : (!((4 : Int32) == 0)) = true := by decide
theorem gd95 {α : Type} {r0 : Option α} (h : Lay M) (hk : k < 2642) : gd (xin (i3 k) (gN (mmb X M) 20 95)) r0 = r0 := by
  simp (disch := first | assumption | omega) only [l12_0_1, l12_0_4, l12_0_5, l12_0_6, l12_0_9, l12_0_10, l12_0_11, l12_0_13, l12_0_14, l12_0_15, l12_0_16, l12_0_17, l12_0_18, l12_0_19, l12_0_23, l12_0_24, l12_0_25, l12_0_27, n20_83, n20_84, n20_85, n20_86, n20_87, n20_88, n20_89, n20_90, n20_91, n20_92, n20_93, n20_94, n20_95, n20_96, n20_97, n20_98, n21_2, n21_3, n21_4, n21_5, n21_6, n22_20, m_0, m_1, m_87, m_88, m_89, m_90, m_91, m_92, m_93, m_94, m_95, m_96, m_97, m_98, p_0, p_1, p_87, p_88, p_89, p_90, p_91, p_92, p_93, p_94, p_95, p_96, p_97, p_98, gR_mmb, gN_mmb, gL_mmb, i3_add1, i3_add, i3_mul, i3_addl, i3_mull, i3_ladd, i3_lmul, i3_div4, i3_le, i3_lt, i3_eq, i3_lel, i3_lle, i3_ltl, i3_llt, i3_eql, i3_leq, i3_nl, i3_0l, i3_nn, n1_lt, n1_le, xi_i3, xin_i3, xi_lit, xin_lit, xb0, xb1, gd_t, nz4, Option.bind_some, gR_emb, gN_emb, gL_emb, ↓reduceIte, if_true, if_false, not_true_eq_false, not_false_eq_true, eq_self, Nat.not_lt_zero, Nat.zero_le, true_or, or_true, false_or, or_false, true_and, and_true, false_and, and_false]
theorem gi95 : gI (mmb X M) 20 95 k = X 95 k := by
  simp (disch := first | assumption | omega) only [l12_0_1, l12_0_4, l12_0_5, l12_0_6, l12_0_9, l12_0_10, l12_0_11, l12_0_13, l12_0_14, l12_0_15, l12_0_16, l12_0_17, l12_0_18, l12_0_19, l12_0_23, l12_0_24, l12_0_25, l12_0_27, n20_83, n20_84, n20_85, n20_86, n20_87, n20_88, n20_89, n20_90, n20_91, n20_92, n20_93, n20_94, n20_95, n20_96, n20_97, n20_98, n21_2, n21_3, n21_4, n21_5, n21_6, n22_20, m_0, m_1, m_87, m_88, m_89, m_90, m_91, m_92, m_93, m_94, m_95, m_96, m_97, m_98, p_0, p_1, p_87, p_88, p_89, p_90, p_91, p_92, p_93, p_94, p_95, p_96, p_97, p_98, gR_mmb, gN_mmb, gL_mmb, i3_add1, i3_add, i3_mul, i3_addl, i3_mull, i3_ladd, i3_lmul, i3_div4, i3_le, i3_lt, i3_eq, i3_lel, i3_lle, i3_ltl, i3_llt, i3_eql, i3_leq, i3_nl, i3_0l, i3_nn, n1_lt, n1_le, xi_i3, xin_i3, xi_lit, xin_lit, xb0, xb1, gd_t, nz4, Option.bind_some, gR_emb, gN_emb, gL_emb, ↓reduceIte, if_true, if_false, not_true_eq_false, not_false_eq_true, eq_self, Nat.not_lt_zero, Nat.zero_le, true_or, or_true, false_or, or_false, true_and, and_true, false_and, and_false]
theorem gr17 (h : Lay M) : gR (mmb X M) 12 0 17 = some 95 := by
  simp (disch := first | assumption | omega) only [l12_0_1, l12_0_4, l12_0_5, l12_0_6, l12_0_9, l12_0_10, l12_0_11, l12_0_13, l12_0_14, l12_0_15, l12_0_16, l12_0_17, l12_0_18, l12_0_19, l12_0_23, l12_0_24, l12_0_25, l12_0_27, n20_83, n20_84, n20_85, n20_86, n20_87, n20_88, n20_89, n20_90, n20_91, n20_92, n20_93, n20_94, n20_95, n20_96, n20_97, n20_98, n21_2, n21_3, n21_4, n21_5, n21_6, n22_20, m_0, m_1, m_87, m_88, m_89, m_90, m_91, m_92, m_93, m_94, m_95, m_96, m_97, m_98, p_0, p_1, p_87, p_88, p_89, p_90, p_91, p_92, p_93, p_94, p_95, p_96, p_97, p_98, gR_mmb, gN_mmb, gL_mmb, i3_add1, i3_add, i3_mul, i3_addl, i3_mull, i3_ladd, i3_lmul, i3_div4, i3_le, i3_lt, i3_eq, i3_lel, i3_lle, i3_ltl, i3_llt, i3_eql, i3_leq, i3_nl, i3_0l, i3_nn, n1_lt, n1_le, xi_i3, xin_i3, xi_lit, xin_lit, xb0, xb1, gd_t, nz4, Option.bind_some, gR_emb, gN_emb, gL_emb, ↓reduceIte, if_true, if_false, not_true_eq_false, not_false_eq_true, eq_self, Nat.not_lt_zero, Nat.zero_le, true_or, or_true, false_or, or_false, true_and, and_true, false_and, and_false]
theorem t_removes (h : Lay M) (hM : MCfg C X) (hb : b ≤ 2140) (hB : CB C) (hU : RuleAs C R X) (hR : Rel C b D X) (hI : Inv C L D) (hV : InV C D) (hL : L + 8 < 1000000) (hLk : X 0 22 = i3 b → Lk D X) (hf : 1100 < fu) (nt : Bool) :
    ∃ X', F_X12_removes fu 0 (i3 b) x (mmb X M) = some ((removeT C R a nt D x).1, mmb X' M) ∧ Po nt b C D (removeT C R a nt D x).2 X X' := by
  have hF := Inv_first (R := R) (a := a) hB hI hV nt
  have c5 := hB.2.2.2.1
  have c8 := hB.2.2.1
  have r2 := hR.2.2.1
  have hPr : Po nt b C D D X X := ⟨hR, hM, Fm_rf, hLk, Pc_rf rfl rfl⟩
  have e02 : i3 b + 2 = i3 (b + 2) := i3_add b 2
  unfold F_X12_removes removeT
  rw [gr17 h, Option.bind_some, e02, gd95 h (by omega), xi_i3 (by omega), gi95, r2]
  by_cases h1 : D 14 1 = 0
  · rw [if_pos h1, decide_eq_true h1]
    exact ⟨X, rfl, hPr⟩
  rw [if_neg h1, decide_eq_false h1, t_isFile h hM hB]
  simp only [Option.bind_some, Bool.not_false, Bool.true_and]
  cases hfi : isFileB C x with
  | false => exact ⟨X, rfl, hPr⟩
  | true =>
    obtain ⟨f, hf', rfl⟩ := isFile_ex hfi c5
    rw [if_neg (show ¬ bz true = 0 from by decide), t_isOrphan h hb hR (by omega), xi_i3 (by omega)]
    simp only [Option.bind_some, Bool.true_and]
    by_cases h12 : D 12 f = 0
    · rw [if_neg (fun q => q h12), decide_eq_true h12, t_mappedOf h hb hR hI.2.2.2.2.1 (by omega) (by omega)]
      simp only [Option.bind_some, Bool.true_and]
      have hbl := bitsN_lt D f
      by_cases hbn : bitsN D f = 0
      · rw [hbn]
        exact ⟨X, rfl, hPr⟩
      · rw [if_pos (show ¬ i3 (bitsN D f) = 0 from fun q => hbn ((i3_eq (b := 0) (by omega) (by omega)).mp q)), decide_eq_false hbn, if_pos (show (! false) = true from rfl)]
        obtain ⟨X1, k1, k2, k3, k4, k5, k6, k7⟩ := t_cutFirst (fu := fu) (M := M) (a := a) h hM hb hB hU hR hI hV hLk hf nt
        rw [k1]
        simp only [Option.bind_some]
        have hPo : Po nt b C D (firstT2 C R a nt D).2 X X1 := ⟨k2, k3, k5, k6, k7⟩
        cases ht : (firstT2 C R a nt D).1 with
        | true =>
          rw [if_neg (show ¬ bz true = 0 from by decide), if_pos rfl]
          exact ⟨X1, rfl, hPo⟩
        | false =>
          rw [if_pos (show bz false = 0 from rfl), if_neg (by decide)]
          have hp12 := firstT2_12 (k := f) (j := 12) (by omega) (Okd3 hI) ht
          rw [h12] at hp12
          generalize (firstT2 C R a nt D).2 = E at hF hp12 hPo k2 k6 ⊢
          obtain ⟨hFI, hFV⟩ := hF
          rw [t_erased h k3 hb hB k2 hFI.2.2.2.2.2.2.2 (by omega)]
          simp only [Option.bind_some]
          rw [t_pagesKept h hb k2 hFI.2.2.2.2.1 (by omega)]
          simp only [Option.bind_some]
          have hk := keptN_le E
          rw [kept_but (by omega) hp12, dec4]
          have e1 : ((1 : Int32) + i3 (keptN E - mapN E f) / 4) + 1 + i3 (C 0 2) = i3 (1 + ((keptN E - mapN E f) / 4 + 1) + C 0 2) := by
            rw [show (4 : Int32) = i3 4 from rfl, i3_div (by omega) (by omega), show (1 : Int32) = i3 1 from rfl, i3_add, i3_add, i3_add]
            congr 1
          simp (disch := first | assumption | omega) only [l12_0_1, l12_0_4, l12_0_5, l12_0_6, l12_0_9, l12_0_10, l12_0_11, l12_0_13, l12_0_14, l12_0_15, l12_0_16, l12_0_17, l12_0_18, l12_0_19, l12_0_23, l12_0_24, l12_0_25, l12_0_27, n20_83, n20_84, n20_85, n20_86, n20_87, n20_88, n20_89, n20_90, n20_91, n20_92, n20_93, n20_94, n20_95, n20_96, n20_97, n20_98, n21_2, n21_3, n21_4, n21_5, n21_6, n22_20, m_0, m_1, m_87, m_88, m_89, m_90, m_91, m_92, m_93, m_94, m_95, m_96, m_97, m_98, p_0, p_1, p_87, p_88, p_89, p_90, p_91, p_92, p_93, p_94, p_95, p_96, p_97, p_98, gR_mmb, gN_mmb, gL_mmb, i3_add1, i3_add, i3_mul, i3_addl, i3_mull, i3_ladd, i3_lmul, i3_div4, i3_le, i3_lt, i3_eq, i3_lel, i3_lle, i3_ltl, i3_llt, i3_eql, i3_leq, i3_nl, i3_0l, i3_nn, n1_lt, n1_le, xi_i3, xin_i3, xi_lit, xin_lit, xb0, xb1, gd_t, nz4, Option.bind_some, gR_emb, gN_emb, gL_emb, ↓reduceIte, if_true, if_false, not_true_eq_false, not_false_eq_true, eq_self, Nat.not_lt_zero, Nat.zero_le, true_or, or_true, false_or, or_false, true_and, and_true, false_and, and_false, k3.2.2.1]
          unfold remB
          generalize hN : i3 (1 + ((keptN E - mapN E f) / 4 + 1) + C 0 2) = N0 at e1
          first | rw [e1] | skip
          by_cases hc : N0 ≤ E 15 3
          · rw [if_pos hc, if_pos hc]
            have he := remB_he (f := f) hB hFI (by rw [hN]; exact hc)
            obtain ⟨X2, w1, w2, w3, w4, w5, w6⟩ := t_putsN (fu := fu) (M := M) (x := 2) (y := i3 f) (z := -1) (v := -1) h k3 hb hB k2 hFI (by omega) he (by decide) (by omega) nt
            have hI2 := Inv_putNew (nt := nt) (f := f) (x := 2) (y := -1) (z := -1) hB hFI (by omega) he (Or.inr ⟨rfl, hf', rfl, rfl⟩)
            have hPo2 : Po nt b C D (putNewT nt E (C 0 0) (C 0 1) 2 (i3 f) (-1) (-1)).2 X X2 := Po_tr hPo ⟨w2, w3, w4, fun e => by rw [w5] at e; exact absurd e (neg_i3 (by omega)), w6⟩
            rw [w1]
            simp only [Option.bind_some]
            generalize putNewT nt E (C 0 0) (C 0 1) 2 (i3 f) (-1) (-1) = Q at hPo2 w2 hI2 ⊢
            obtain ⟨q1, T⟩ := Q
            cases q1 with
            | false => exact ⟨X2, rfl, hPo2⟩
            | true =>
              simp only at hPo2 w2 hI2 ⊢
              rw [if_pos (show ¬ bz true = 0 from by decide), t_isOpen h hb w2 (by omega), if_pos trivial]
              simp only [Option.bind_some]
              obtain ⟨p1, p2, p3, p4, p5⟩ := hPo2
              have g0 := p1.1
              by_cases c2 : T 11 f = 0
              · rw [if_pos c2, if_pos c2, t_unmaps h hb (by omega) (by omega)]
                simp only [Option.bind_some, e16]
                have e3 : unmX X2 b f 95 b = T 14 10 := (unmX_o (by omega)).trans g0
                have e4 : unmapT T f 14 10 = T 14 10 := unmapT_lo (by omega)
                simp (disch := first | assumption | omega) only [l12_0_1, l12_0_4, l12_0_5, l12_0_6, l12_0_9, l12_0_10, l12_0_11, l12_0_13, l12_0_14, l12_0_15, l12_0_16, l12_0_17, l12_0_18, l12_0_19, l12_0_23, l12_0_24, l12_0_25, l12_0_27, n20_83, n20_84, n20_85, n20_86, n20_87, n20_88, n20_89, n20_90, n20_91, n20_92, n20_93, n20_94, n20_95, n20_96, n20_97, n20_98, n21_2, n21_3, n21_4, n21_5, n21_6, n22_20, m_0, m_1, m_87, m_88, m_89, m_90, m_91, m_92, m_93, m_94, m_95, m_96, m_97, m_98, p_0, p_1, p_87, p_88, p_89, p_90, p_91, p_92, p_93, p_94, p_95, p_96, p_97, p_98, gR_mmb, gN_mmb, gL_mmb, i3_add1, i3_add, i3_mul, i3_addl, i3_mull, i3_ladd, i3_lmul, i3_div4, i3_le, i3_lt, i3_eq, i3_lel, i3_lle, i3_ltl, i3_llt, i3_eql, i3_leq, i3_nl, i3_0l, i3_nn, n1_lt, n1_le, xi_i3, xin_i3, xi_lit, xin_lit, xb0, xb1, gd_t, nz4, Option.bind_some, gR_emb, gN_emb, gL_emb, ↓reduceIte, if_true, if_false, not_true_eq_false, not_false_eq_true, eq_self, Nat.not_lt_zero, Nat.zero_le, true_or, or_true, false_or, or_false, true_and, and_true, false_and, and_false, Nat.add_zero, e3, e4]
                exact ⟨_, rfl, Po_tr ⟨p1, p2, p3, p4, p5⟩ (Po_unmap p1 p2 p4 hb (by omega))⟩
              · rw [if_neg c2, if_neg c2]
                simp only [e16]
                have e3 : ∀ y, up X2 95 (b + 5) y 95 b = T 14 10 := fun y => (up_ne (by omega)).trans g0
                simp (disch := first | assumption | omega) only [l12_0_1, l12_0_4, l12_0_5, l12_0_6, l12_0_9, l12_0_10, l12_0_11, l12_0_13, l12_0_14, l12_0_15, l12_0_16, l12_0_17, l12_0_18, l12_0_19, l12_0_23, l12_0_24, l12_0_25, l12_0_27, n20_83, n20_84, n20_85, n20_86, n20_87, n20_88, n20_89, n20_90, n20_91, n20_92, n20_93, n20_94, n20_95, n20_96, n20_97, n20_98, n21_2, n21_3, n21_4, n21_5, n21_6, n22_20, m_0, m_1, m_87, m_88, m_89, m_90, m_91, m_92, m_93, m_94, m_95, m_96, m_97, m_98, p_0, p_1, p_87, p_88, p_89, p_90, p_91, p_92, p_93, p_94, p_95, p_96, p_97, p_98, gR_mmb, gN_mmb, gL_mmb, i3_add1, i3_add, i3_mul, i3_addl, i3_mull, i3_ladd, i3_lmul, i3_div4, i3_le, i3_lt, i3_eq, i3_lel, i3_lle, i3_ltl, i3_llt, i3_eql, i3_leq, i3_nl, i3_0l, i3_nn, n1_lt, n1_le, xi_i3, xin_i3, xi_lit, xin_lit, xb0, xb1, gd_t, nz4, Option.bind_some, gR_emb, gN_emb, gL_emb, ↓reduceIte, if_true, if_false, not_true_eq_false, not_false_eq_true, eq_self, Nat.not_lt_zero, Nat.zero_le, true_or, or_true, false_or, or_false, true_and, and_true, false_and, and_false, Nat.add_zero, e3]
                exact ⟨_, rfl, Po_tr ⟨p1, p2, p3, p4, p5⟩ (Po_orph p1 p2 p4 hb (bits_or p1.2.2.2.2.2.1 (by omega) (fun k hk hne => up_ne (by omega)) up_eq))⟩
          · rw [if_neg hc, if_neg hc]
            exact ⟨X1, rfl, hPo⟩
    · rw [if_pos h12, decide_eq_false h12]
      exact ⟨X, rfl, hPr⟩
end
