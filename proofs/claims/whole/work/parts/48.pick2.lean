/-! ===== pickOf, freshBlock ===== -/
section
variable {M : xM} {D E X Y Z : xT} {C : xC} {R : Nat → Int32} {fu b d L s o t k n m i j p q f l w nb nw a : Nat} {x y z v u : Int32}
theorem pick_y (hB : CB C) (hO : Ok (C 0 0) (C 0 1) D) (hV : InV C D) (hI : InB C D) (hk : k < C 0 0) : (if i3 k = surveyT D (C 0 0) (C 0 1) 15 4 then (0 : Int32) else dirtyT (surveyT D (C 0 0) (C 0 1)) k) = if i3 k = D 15 4 then 0 else i3 (diN D (C 0 1) k) := by
  rw [surveyT_lo (by omega), dirty_eq hB hO hV hI hk]
theorem j184_0 : J_X12_pickOf_184 fu x 0 M = some (-1, M) := by unfold J_X12_pickOf_184; rw [if_pos rfl]
theorem j184_1 : J_X12_pickOf_184 fu x 1 M = some (x, M) := by unfold J_X12_pickOf_184; rw [if_neg (by decide)]
theorem t_pickLoop (h : Lay M) (hM : MCfg C X) (hb : b ≤ 2140) (hB : CB C) (hR : Rel C b D X) (hI : Inv C L D) (hV : InV C D) (hL : X 0 22 = i3 b → Lk D X) (hf : 100 < fu) : ∀ (n i : Nat) (Y : xT), i ≤ C 0 0 → C 0 0 - i < n → Gd C b D X Y →
    ∃ Y', Gd C b D X Y' ∧ L_X12_pickOf_7 fu n 0 (i3 b) (pickF (surveyT D (C 0 0) (C 0 1)) i).1 (pickF (surveyT D (C 0 0) (C 0 1)) i).2 (i3 i) (mmb Y M) = some (if D 14 1 = 0 then -1 else on (pickB (surveyT D (C 0 0) (C 0 1)) (C 0 0)), mmb Y' M)
  | 0, i, Y, hi, hn, hG => absurd hn (by omega)
  | n + 1, i, Y, hi, hn, hG => by
    obtain ⟨hO, hA, hN, hS, hMp, hC, hOo, hIB⟩ := hI
    obtain ⟨gR2, gM2, gL2, gE⟩ := Gd_rel hR hM hL hG
    have h36 := tot36 hB
    have h6 := hB.1
    have h61 := hB.2.1
    have hpos := pickF_pos (E := surveyT D (C 0 0) (C 0 1)) i (by omega)
    rcases Nat.lt_or_ge i (C 0 0) with c | c
    · have hBl := blk (nw := C 0 1) c
      have hT : tot C = C 0 0 * C 0 1 := rfl
      have hS2 : C 0 1 * i = i * C 0 1 := Nat.mul_comm _ _
      have e0 : pickF (surveyT D (C 0 0) (C 0 1)) (i + 1) = if (pickF (surveyT D (C 0 0) (C 0 1)) i).2 < (if i3 i = surveyT D (C 0 0) (C 0 1) 15 4 then 0 else dirtyT (surveyT D (C 0 0) (C 0 1)) i) ∨ (¬ (pickF (surveyT D (C 0 0) (C 0 1)) i).1 < 0 ∧ (if i3 i = surveyT D (C 0 0) (C 0 1) 15 4 then 0 else dirtyT (surveyT D (C 0 0) (C 0 1)) i) = (pickF (surveyT D (C 0 0) (C 0 1)) i).2 ∧ surveyT D (C 0 0) (C 0 1) 0 i < surveyT D (C 0 0) (C 0 1) 0 (xi (pickF (surveyT D (C 0 0) (C 0 1)) i).1)) then (i3 i, if i3 i = surveyT D (C 0 0) (C 0 1) 15 4 then 0 else dirtyT (surveyT D (C 0 0) (C 0 1)) i) else pickF (surveyT D (C 0 0) (C 0 1)) i := rfl
      rw [pick_y hB hO hV hIB c, surveyT_lo (j := 0) (k := i) (by omega), surveyT_lo (j := 0) (k := xi (pickF (surveyT D (C 0 0) (C 0 1)) i).1) (by omega)] at e0
      have step : ∀ Z, Gd C b D X Z → ∃ Y', Gd C b D X Y' ∧ J_X12_pickOf_50 fu (L_X12_pickOf_7 fu n) 0 (i3 b) (pickF (surveyT D (C 0 0) (C 0 1)) i).1 (pickF (surveyT D (C 0 0) (C 0 1)) i).2 (i3 i) (if i3 i = D 15 4 then 0 else i3 (diN D (C 0 1) i)) (mmb Z M) = some (if D 14 1 = 0 then -1 else on (pickB (surveyT D (C 0 0) (C 0 1)) (C 0 0)), mmb Y' M) := by
        intro Z hZ
        have hRZ := (Gd_rel hR hM hL hZ).1
        rw [t_pick50 (D := D) (y := (0, 0)) h hb hRZ (show i < 6 by omega) hpos]
        have ih := t_pickLoop h hM hb hB hR ⟨hO, hA, hN, hS, hMp, hC, hOo, hIB⟩ hV hL hf n (i + 1) Z (by omega) (by omega) hZ
        rw [e0] at ih
        generalize (if i3 i = D 15 4 then (0 : Int32) else i3 (diN D (C 0 1) i)) = yy at ih ⊢
        by_cases cc : (pickF (surveyT D (C 0 0) (C 0 1)) i).2 < yy ∨ (¬ (pickF (surveyT D (C 0 0) (C 0 1)) i).1 < 0 ∧ yy = (pickF (surveyT D (C 0 0) (C 0 1)) i).2 ∧ D 0 i < D 0 (xi (pickF (surveyT D (C 0 0) (C 0 1)) i).1))
        · simp only [if_pos cc] at ih ⊢; exact ih
        · simp only [if_neg cc] at ih ⊢; exact ih
      have r1 := gR2.2.1
      unfold L_X12_pickOf_7
      rw [t_blocks h gM2, Option.bind_some, if_neg (by rw [i3_le (by omega) (by omega)]; omega)]
      rw [show gR (mmb Y M) 12 0 17 = some 95 from l12_0_17 h]
      simp only [Option.bind_some, show gN (mmb Y M) 20 95 = 2675 from n20_95 h, show (1 : Int32) = i3 1 from rfl, i3_add]
      rw [xin_i3 (by omega) (by omega), gd_t, xi_i3 (by omega), m_95, r1]
      by_cases ch : i3 i = D 15 4
      · rw [if_neg (by simpa using ch)]
        have := step Y hG
        rw [if_pos ch] at this
        exact this
      · rw [if_pos ch, t_wide h gM2, Option.bind_some, t_wide h gM2, Option.bind_some]
        simp only [i3_mul, hS2]
        rw [show (2 : Int32) = i3 2 from rfl, t_tally h gM2 hb hB gR2 hA hN hS hC gL2 hf (by omega) (by omega), Option.bind_some, gE]
        have := step _ (Or.inr rfl)
        rw [if_neg ch] at this
        exact this
    · have e : i = C 0 0 := by omega
      subst e
      have r2 := gR2.2.2.1
      unfold L_X12_pickOf_7
      rw [t_blocks h gM2, Option.bind_some, if_pos (Int32.le_refl _)]
      rw [show gR (mmb Y M) 12 0 17 = some 95 from l12_0_17 h]
      simp only [Option.bind_some, show gN (mmb Y M) 20 95 = 2675 from n20_95 h, show (2 : Int32) = i3 2 from rfl, i3_add]
      rw [xin_i3 (by omega) (by omega), gd_t, xi_i3 (by omega), m_95, r2]
      rcases hOo.1 with p0 | p1
      · have n1 : ¬ D 14 1 = 1 := by rw [p0]; decide
        rw [if_pos n1, if_pos p0, j184_0]
        exact ⟨Y, hG, rfl⟩
      · have n0 : ¬ D 14 1 = 0 := by rw [p1]; decide
        rw [if_neg (not_not_intro p1), if_neg n0]
        unfold pickB
        rcases hpos with ⟨e1, e2⟩ | ⟨h', hh, e1, e2⟩
        · have e3 : (pickF (surveyT D (C 0 0) (C 0 1)) (C 0 0)).1 < 0 := by rw [e1]; decide
          simp only [if_pos e3]
          rw [j184_0]
          exact ⟨Y, hG, rfl⟩
        · have hh' : h' < 2147483648 := by omega
          have hBl := blk (nw := C 0 1) hh
          have hT : tot C = C 0 0 * C 0 1 := rfl
          have hS2 : C 0 1 * h' = h' * C 0 1 := Nat.mul_comm _ _
          obtain ⟨l', l1, l2, l3, l4⟩ := hIB.2 h' hh
          have hT1 := t_tally (fu := fu) (M := M) h gM2 hb hB gR2 hA hN hS hC gL2 hf (f := h' * C 0 1) (m := C 0 1) (w := 1) (by omega) (by omega)
          rw [show (i3 1) = (1 : Int32) from rfl, gE] at hT1
          have e4 : ¬ (pickF (surveyT D (C 0 0) (C 0 1)) (C 0 0)).1 < 0 := by rw [e1]; exact fun q => (i3_nl hh').mp q
          have e5 : cnt (fun i => tlB D 1 (h' * C 0 1 + i)) (C 0 1) = liN D (C 0 1) h' := rfl
          rw [e5] at hT1
          simp only [if_neg e4]
          rw [e1, xi_i3 hh', t_erased h gM2 hb hB gR2 hIB hf, Option.bind_some, t_erasedIn h gM2 hb hB gR2 hf hh, Option.bind_some, t_wide h gM2, Option.bind_some, t_wide h gM2, Option.bind_some]
          simp only [i3_mul, hS2]
          rw [hT1, Option.bind_some, surv_10 hB hV hh, surveyT_lo (j := 15) (by omega), surveyT_lo (j := 1) (by omega), l2, era_l l1 l3]
          by_cases c5 : i3 (liN D (C 0 1) h') ≤ D 15 3 - i3 l'
          · rw [if_neg (Int32.not_lt.mpr c5), if_pos c5, j184_1]
            exact ⟨_, Or.inr rfl, rfl⟩
          · rw [if_pos (Int32.not_le.mp c5), if_neg c5, j184_0]
            exact ⟨_, Or.inr rfl, rfl⟩
theorem t_pickOf (h : Lay M) (hM : MCfg C X) (hb : b ≤ 2140) (hB : CB C) (hR : Rel C b D X) (hI : Inv C L D) (hV : InV C D) (hL : X 0 22 = i3 b → Lk D X) (hf : 100 < fu) :
    ∃ Y', Gd C b D X Y' ∧ F_X12_pickOf fu 0 (i3 b) (mmb X M) = some (on (pickT D (C 0 0) (C 0 1)).1, mmb Y' M) := by
  have h6 := hB.1
  obtain ⟨Y', g1, g2⟩ := t_pickLoop h hM hb hB hR hI hV hL hf fu 0 X (Nat.zero_le _) (by omega) (Or.inl rfl)
  refine ⟨Y', g1, ?_⟩
  unfold F_X12_pickOf pickT
  refine Eq.trans g2 ?_
  by_cases c : D 14 1 = 0
  · simp only [if_pos c]; rfl
  · simp only [if_neg c]
theorem t_freshBlock (h : Lay M) (hM : MCfg C X) (hb : b ≤ 2140) (hB : CB C) (hR : Rel C b D X) (hO : Ok (C 0 0) (C 0 1) D) (hI : InB C D) (hw : 0 < C 0 1) (hf : 100 < fu) :
    F_X12_freshBlock fu 0 (i3 b) (mmb X M) = some (freshF D (C 0 0), mmb X M) := by
  have h6 := hB.1
  have h61 := hB.2.1
  have o4 := hO.2.2.2.1
  unfold F_X12_freshBlock
  refine lpc (fun n i x => L_X12_freshBlock_4 fu n 0 (i3 b) x (i3 i) (mmb X M)) (freshF D) (C 0 0) _ ?_ ?_ fu 0 (by omega) (by omega)
  · intro n i hi
    show L_X12_freshBlock_4 fu (n + 1) 0 (i3 b) (freshF D i) (i3 i) (mmb X M) = L_X12_freshBlock_4 fu n 0 (i3 b) (freshF D (i + 1)) (i3 (i + 1)) (mmb X M)
    obtain ⟨l', l1, l2, l3, l4⟩ := hI.2 i hi
    have hRg := freshF_in D i
    rw [show freshF D (i + 1) = if (0 < D 15 1 ∧ D 1 i = D 15 1) ∧ (freshF D i < 0 ∨ D 0 i < D 0 (xi (freshF D i))) then i3 i else freshF D i from rfl]
    generalize freshF D i = x at hRg ⊢
    have e0 : (0 : Int32) < D 15 1 := by rw [o4]; exact (i3_lt (a := 0) (by omega) (by omega)).mpr hw
    conv => lhs; unfold L_X12_freshBlock_4 J_X12_freshBlock_59
    rw [t_blocks h hM, Option.bind_some, if_neg (by rw [i3_le (by omega) (by omega)]; omega), t_erasedIn h hM hb hB hR hf hi, Option.bind_some, t_wide h hM, Option.bind_some, era_l l1 l3, ← l2, ← o4]
    simp only [e0, true_and, i3_add1]
    by_cases c1 : D 1 i = D 15 1
    · rw [if_neg (by simpa using c1)]
      rcases hRg with rfl | ⟨h', hh, rfl, -, -⟩
      · rw [if_pos (by decide)]
        simp [c1, n1_lt]
      · have hh' : h' < 2147483648 := by omega
        have r1 := hR.2.2.2.2.2.2.2.1 i (by omega)
        have r2 := hR.2.2.2.2.2.2.2.1 h' (by omega)
        simp only [i3_nl hh', if_false, false_or, xi_i3 hh']
        simp (disch := first | assumption | omega) only [l12_0_1, l12_0_4, l12_0_5, l12_0_6, l12_0_9, l12_0_10, l12_0_11, l12_0_13, l12_0_14, l12_0_15, l12_0_16, l12_0_17, l12_0_18, l12_0_19, l12_0_23, l12_0_24, l12_0_25, l12_0_27, n20_83, n20_84, n20_85, n20_86, n20_87, n20_88, n20_89, n20_90, n20_91, n20_92, n20_93, n20_94, n20_95, n20_96, n20_97, n20_98, n21_2, n21_3, n21_4, n21_5, n21_6, n22_20, m_0, m_1, m_87, m_88, m_89, m_90, m_91, m_92, m_93, m_94, m_95, m_96, m_97, m_98, p_0, p_1, p_87, p_88, p_89, p_90, p_91, p_92, p_93, p_94, p_95, p_96, p_97, p_98, gR_mmb, gN_mmb, gL_mmb, i3_add1, i3_add, i3_mul, i3_addl, i3_mull, i3_ladd, i3_lmul, i3_div4, i3_le, i3_lt, i3_eq, i3_lel, i3_lle, i3_ltl, i3_llt, i3_eql, i3_leq, i3_nl, i3_0l, i3_nn, n1_lt, n1_le, xi_i3, xin_i3, xi_lit, xin_lit, xb0, xb1, gd_t, nz4, Option.bind_some, gR_emb, gN_emb, gL_emb, ↓reduceIte, if_true, if_false, not_true_eq_false, not_false_eq_true, eq_self, Nat.not_lt_zero, Nat.zero_le, true_or, or_true, false_or, or_false, true_and, and_true, false_and, and_false, r1, r2]
        by_cases c4 : D 0 h' ≤ D 0 i
        · have : ¬ (D 0 i < D 0 h') := Int32.not_lt.mpr c4
          simp [c4, this, c1]
        · have : D 0 i < D 0 h' := Int32.not_le.mp c4
          simp [c4, this, c1]
    · rw [if_pos c1]
      simp [c1]
  · intro n
    show L_X12_freshBlock_4 fu (n + 1) 0 (i3 b) (freshF D (C 0 0)) (i3 (C 0 0)) (mmb X M) = _
    conv => lhs; unfold L_X12_freshBlock_4
    rw [t_blocks h hM, Option.bind_some, if_pos (Int32.le_refl _)]
end
