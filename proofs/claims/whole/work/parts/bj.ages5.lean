/-! ===== works by draws: both sides ===== -/
section
variable {M M' N N' : xM} {D E S T X X' : xT} {C : xC} {R : Nat → Int32} {d fu n m i j o p q a c k l s t w K P L L' b B B' f e F g A A0 x0 : Nat} {u v x y r z lo hi : Int32} {nt : Bool} {W : Nat → Nat} {V : Nat → Nat → Int32} {y64 : Int64}
theorem wi_t (h1 : ¬ x < lo) (h2 : ¬ hi < x) : F_X12_within fu x lo hi M = some (1, M) := by
  unfold F_X12_within
  rw [if_neg h1, if_neg h2]; rfl
theorem wi_f (h : x < lo ∨ hi < x) : F_X12_within fu x lo hi M = some (0, M) := by
  unfold F_X12_within
  by_cases c : x < lo
  · rw [if_pos c]; rfl
  · rw [if_neg c, if_pos (h.resolve_left c)]; rfl
theorem agAns_eq (h1 : ¬ z < 0) (h2 : ¬ 2 < z) : z = 0 ∨ z = 1 ∨ z = 2 := by
  obtain ⟨g, hg, rfl⟩ := i3_of (Int32.not_lt.mp h1)
  have : ¬ 2 < g := fun q => h2 ((i3_lt (a := 2) (by omega) hg).mpr q)
  rcases (show g = 0 ∨ g = 1 ∨ g = 2 by omega) with rfl | rfl | rfl
  · exact Or.inl rfl
  · exact Or.inr (Or.inl rfl)
  · exact Or.inr (Or.inr rfl)
theorem t_agTo (h : Lay M) (c2 : ¬ i3 x0 < 0) (c3 : ¬ 9999 < i3 x0) (c4 : ¬ y < 1) (c5 : ¬ 99 < y) (c6 : ¬ z < 0) (c7 : ¬ 2 < z) (hx0 : x0 < 2147483648) (e9 : ¬ up X 0 0 0 95 2 = 0) (k1 : F_X12_tries fu 0 (mmb (up X 0 0 0) M) = some (mmb X' M)) :
    F_X12_ages fu 0 (i3 x0) y z (mmb X M) = L_X12_ages_62 fu fu 0 y z 0 0 (mmb X' (sL M 12 0 28 (Int64.ofNat x0))) := by
  have hsd : sL (mmb X' M) 12 0 28 (Int64.ofNat x0) = mmb X' (sL M 12 0 28 (Int64.ofNat x0)) := rfl
  unfold F_X12_ages
  simp only [sI_th]
  rw [wi_t c2 c3]
  simp only [Option.bind_some]
  rw [if_neg (by decide), wi_t c4 c5]
  simp only [Option.bind_some]
  rw [if_neg (by decide), wi_t c6 c7]
  simp only [Option.bind_some]
  rw [if_neg (by decide)]
  simp (disch := first | assumption | omega) only [l12_0_1, l12_0_4, l12_0_5, l12_0_6, l12_0_9, l12_0_10, l12_0_11, l12_0_13, l12_0_14, l12_0_15, l12_0_16, l12_0_17, l12_0_18, l12_0_19, l12_0_23, l12_0_24, l12_0_25, l12_0_27, n20_83, n20_84, n20_85, n20_86, n20_87, n20_88, n20_89, n20_90, n20_91, n20_92, n20_93, n20_94, n20_95, n20_96, n20_97, n20_98, n21_2, n21_3, n21_4, n21_5, n21_6, n22_20, m_0, m_1, m_87, m_88, m_89, m_90, m_91, m_92, m_93, m_94, m_95, m_96, m_97, m_98, p_0, p_1, p_87, p_88, p_89, p_90, p_91, p_92, p_93, p_94, p_95, p_96, p_97, p_98, gR_mmb, gN_mmb, gL_mmb, i3_add1, i3_add, i3_mul, i3_addl, i3_mull, i3_ladd, i3_lmul, i3_div4, i3_le, i3_lt, i3_eq, i3_lel, i3_lle, i3_ltl, i3_llt, i3_eql, i3_leq, i3_nl, i3_0l, i3_nn, n1_lt, n1_le, xi_i3, xin_i3, xi_lit, xin_lit, xb0, xb1, gd_t, nz4, Option.bind_some, gR_emb, gN_emb, gL_emb, ↓reduceIte, if_true, if_false, not_true_eq_false, not_false_eq_true, eq_self, Nat.not_lt_zero, Nat.zero_le, true_or, or_true, false_or, or_false, true_and, and_true, false_and, and_false]
  rw [if_pos e9, k1]
  simp only [Option.bind_some]
  rw [l_i64 hx0, hsd]
theorem op_ages (hS : SimP C R a w n W V B M) (hf : 1100 < fu) (hBB : B + 1000 < 1000000) : Both C R a w n W V B (F_X11_ages fu 0 x y z) (F_X12_ages fu 0 x y z) M := by
  obtain ⟨s1, s2, s3, s4, s5, s6, ⟨L, l1, l2, l3, l4, l5, l6⟩, s8, s9, s10, s11, s12, s13, s14, s15⟩ := id hS
  have h := s1.1
  have e1 : gI M 2 0 1 = tb 0 M 14 1 := (tb_r (e := 0) (j := 14) (by omega)).symm
  have l2' : ∀ X : xT, (up X 0 0 0 95 2 = X 95 2) := fun X => up_ne (by omega)
  have x2 : tX M 95 2 = tb 0 M 14 1 := l4.2.2.1
  by_cases P : (tb 0 M 14 1 = 0 ∨ x < 0 ∨ 9999 < x ∨ y < 1 ∨ 99 < y ∨ z < 0 ∨ 2 < z)
  · refine op_same (r := -1) hS ?_ (fun M1 h1 => ⟨_, ?_, FmS_0 (v := 0) s8⟩)
    · unfold F_X11_ages
      rw [l11_0_6 h]
      simp only [Option.bind_some]
      rw [e1]
      by_cases c1 : tb 0 M 14 1 = 0
      · rw [if_pos c1]
      rw [if_neg c1]
      by_cases c2 : x < 0
      · rw [if_pos c2]
      rw [if_neg c2]
      by_cases c3 : 9999 < x
      · rw [if_pos c3]
      rw [if_neg c3]
      by_cases c4 : y < 1
      · rw [if_pos c4]
      rw [if_neg c4]
      by_cases c5 : 99 < y
      · rw [if_pos c5]
      rw [if_neg c5]
      by_cases c6 : z < 0
      · rw [if_pos c6]
      rw [if_neg c6]
      rw [if_neg (Int32.not_le.mpr (by
        rcases P with q | q | q | q | q | q | q
        · exact absurd q c1
        · exact absurd q c2
        · exact absurd q c3
        · exact absurd q c4
        · exact absurd q c5
        · exact absurd q c6
        · exact q))]
    · unfold F_X12_ages
      simp only [sI_th]
      by_cases c2 : x < 0 ∨ 9999 < x
      · rw [wi_f c2]; rfl
      rw [wi_t (fun q => c2 (Or.inl q)) (fun q => c2 (Or.inr q))]
      simp only [Option.bind_some]
      rw [if_neg (by decide)]
      by_cases c3 : y < 1 ∨ 99 < y
      · rw [wi_f c3]; rfl
      rw [wi_t (fun q => c3 (Or.inl q)) (fun q => c3 (Or.inr q))]
      simp only [Option.bind_some]
      rw [if_neg (by decide)]
      by_cases c4 : z < 0 ∨ 2 < z
      · rw [wi_f c4]; rfl
      rw [wi_t (fun q => c4 (Or.inl q)) (fun q => c4 (Or.inr q))]
      simp only [Option.bind_some]
      rw [if_neg (by decide)]
      have c1 : tb 0 M 14 1 = 0 := by
        rcases P with q | q | q | q | q | q | q
        · exact q
        · exact absurd (Or.inl q) c2
        · exact absurd (Or.inr q) c2
        · exact absurd (Or.inl q) c3
        · exact absurd (Or.inr q) c3
        · exact absurd (Or.inl q) c4
        · exact absurd (Or.inr q) c4
      have e9 : up (tX M) 0 0 0 95 2 = 0 := (l2' _).trans (x2.trans c1)
      simp (disch := first | assumption | omega) only [l12_0_1, l12_0_4, l12_0_5, l12_0_6, l12_0_9, l12_0_10, l12_0_11, l12_0_13, l12_0_14, l12_0_15, l12_0_16, l12_0_17, l12_0_18, l12_0_19, l12_0_23, l12_0_24, l12_0_25, l12_0_27, n20_83, n20_84, n20_85, n20_86, n20_87, n20_88, n20_89, n20_90, n20_91, n20_92, n20_93, n20_94, n20_95, n20_96, n20_97, n20_98, n21_2, n21_3, n21_4, n21_5, n21_6, n22_20, m_0, m_1, m_87, m_88, m_89, m_90, m_91, m_92, m_93, m_94, m_95, m_96, m_97, m_98, p_0, p_1, p_87, p_88, p_89, p_90, p_91, p_92, p_93, p_94, p_95, p_96, p_97, p_98, gR_mmb, gN_mmb, gL_mmb, i3_add1, i3_add, i3_mul, i3_addl, i3_mull, i3_ladd, i3_lmul, i3_div4, i3_le, i3_lt, i3_eq, i3_lel, i3_lle, i3_ltl, i3_llt, i3_eql, i3_leq, i3_nl, i3_0l, i3_nn, n1_lt, n1_le, xi_i3, xin_i3, xi_lit, xin_lit, xb0, xb1, gd_t, nz4, Option.bind_some, gR_emb, gN_emb, gL_emb, ↓reduceIte, if_true, if_false, not_true_eq_false, not_false_eq_true, eq_self, Nat.not_lt_zero, Nat.zero_le, true_or, or_true, false_or, or_false, true_and, and_true, false_and, and_false, e9]
  · have c1 : ¬ tb 0 M 14 1 = 0 := fun q => P (Or.inl q)
    have c2 : ¬ x < 0 := fun q => P (Or.inr (Or.inl q))
    have c3 : ¬ 9999 < x := fun q => P (Or.inr (Or.inr (Or.inl q)))
    have c4 : ¬ y < 1 := fun q => P (Or.inr (Or.inr (Or.inr (Or.inl q))))
    have c5 : ¬ 99 < y := fun q => P (Or.inr (Or.inr (Or.inr (Or.inr (Or.inl q)))))
    have c6 : ¬ z < 0 := fun q => P (Or.inr (Or.inr (Or.inr (Or.inr (Or.inr (Or.inl q))))))
    have c7 : ¬ 2 < z := fun q => P (Or.inr (Or.inr (Or.inr (Or.inr (Or.inr (Or.inr q))))))
    have hz := agAns_eq c6 c7
    obtain ⟨x0, hx0, rfl⟩ := i3_of (Int32.not_lt.mp c2)
    obtain ⟨A, hA0, rfl⟩ := i3_of (x := y) (by
      have q1 := Int32.not_lt.mp c4
      exact Int32.le_trans (by decide) q1)
    have hx1 : ¬ 9999 < x0 := fun q => c3 ((i3_lt (a := 9999) (by omega) hx0).mpr q)
    have hA : ¬ 99 < A := fun q => c5 ((i3_lt (a := 99) (by omega) hA0).mpr q)
    have h2 : Lay (sR M 2 1 4 (some a)) := Lay_sR4 h
    have hC2 : Cfg C R a (sR M 2 1 4 (some a)) := s3
    have hgp : gR (sR M 2 1 4 (some a)) 2 1 4 = some a := by
      show (if 2 = 2 ∧ 1 = 1 ∧ 4 = 4 then some a else gR M 2 1 4) = some a
      rw [if_pos ⟨rfl, rfl, rfl⟩]
    have et := e_tryFromNow (fu := fu) h l2.2.2.2.2.2.2.1.1 l5
    have hIt : Inv C L (trT (tb 0 M) (tb 1 M)) := Inv_tr s2 l2
    have er := e_agRun (fu := fu) (x0 := x0) (A := A) (T := trT (tb 0 M) (tb 1 M)) h2 s2 s1.2.1 hC2 hgp hIt InV_tr (by omega) trT_142 hx0 hf (by omega)
    obtain ⟨o1, o2, o3, o4⟩ := agE_ok (R := R) (a := a) (x0 := x0) (A := A) s2 hIt InV_tr (by omega) trT_142 hx0 (by omega)
    -- the reference
    have hl1 : Lay (emb 1 (agE C R a x0 (trT (tb 0 M) (tb 1 M)) A).2.2 (sL (sR M 2 1 4 (some a)) 6 0 0 (Int64.ofNat (agE C R a x0 (trT (tb 0 M) (tb 1 M)) A).2.1))) := h2
    obtain ⟨X2, k1, k2, k3, k4, k5⟩ := t_tries (fu := fu) hl1 s2 (up0_M (v := 0) s4) (up0_Rel (v := 0) l4) hf
    have k2' : Rel C 1605 (trT (tb 0 M) (tb 1 M)) X2 := Rel_rg s2 (fun j k hj => trT_rg hj) k2
    have n22 : ¬ X2 0 22 = i3 1605 := fun q => by rw [k5] at q; exact absurd q (neg_i3 (by omega))
    have hrun : ∃ X', L_X12_ages_62 fu fu 0 (i3 A) z 0 0 (mmb X2 (sL (emb 1 (agE C R a x0 (trT (tb 0 M) (tb 1 M)) A).2.2 (sL (sR M 2 1 4 (some a)) 6 0 0 (Int64.ofNat (agE C R a x0 (trT (tb 0 M) (tb 1 M)) A).2.1))) 12 0 28 (Int64.ofNat x0))) = some (if z = 0 then i3 (agE C R a x0 (trT (tb 0 M) (tb 1 M)) A).1 else if z = 1 then (agE C R a x0 (trT (tb 0 M) (tb 1 M)) A).2.2 15 3 else i3 (cnt (fun i => ! decide ((agE C R a x0 (trT (tb 0 M) (tb 1 M)) A).2.2 9 i = 0)) 20), mmb X' (sL (emb 1 (agE C R a x0 (trT (tb 0 M) (tb 1 M)) A).2.2 (sL (sR M 2 1 4 (some a)) 6 0 0 (Int64.ofNat (agE C R a x0 (trT (tb 0 M) (tb 1 M)) A).2.1))) 12 0 28 (Int64.ofNat (agE C R a x0 (trT (tb 0 M) (tb 1 M)) A).2.1))) ∧ Fm 1605 X2 X' := by
      by_cases hF : C 0 3 = 0
      · refine ⟨X2, ?_, Fm_rf⟩
        have q0 : agE C R a x0 (trT (tb 0 M) (tb 1 M)) A = (0, x0, trT (tb 0 M) (tb 1 M)) := by unfold agE; rw [if_pos hF]
        rw [q0]
        exact (t_agRun0 (z := z) (N := sL (emb 1 (trT (tb 0 M) (tb 1 M)) (sL (sR M 2 1 4 (some a)) 6 0 0 (Int64.ofNat x0))) 12 0 28 (Int64.ofNat x0)) h2 k3 hF hf (by omega)).trans (t_agAns (N := sL (emb 1 (trT (tb 0 M) (tb 1 M)) (sL (sR M 2 1 4 (some a)) 6 0 0 (Int64.ofNat x0))) 12 0 28 (Int64.ofNat x0)) h2 s2 k3 k2' hIt hf)
      · have q0 : agE C R a x0 (trT (tb 0 M) (tb 1 M)) A = agF C R a x0 (trT (tb 0 M) (tb 1 M)) A := by unfold agE; rw [if_neg hF]
        rw [q0] at o1 hl1 ⊢
        obtain ⟨X', r1, r2, r3, r4, r5⟩ := t_agRun (fu := fu) (R := R) (a := a) (z := z) hl1 s2 hIt InV_tr (by omega) trT_142 (by omega) hx0 hf (show A ≤ 99 by omega) A 0 fu X2 (by omega) (by omega) k3 (RuleAs_fm s5 ((k4.1 90 4 (by omega) (by omega) (by omega) (by omega) (by omega)).trans (up_ne (by omega))) (fun k => (k4.1 91 k (by omega) (by omega) (by omega) (by omega) (by omega)).trans (up_ne (by omega)))) k2' (fun q => absurd q n22)
        refine ⟨X', ?_, r4⟩
        rw [show L_X12_ages_62 fu fu 0 (i3 A) z 0 0 (mmb X2 (sL (emb 1 (agF C R a x0 (trT (tb 0 M) (tb 1 M)) A).2.2 (sL (sR M 2 1 4 (some a)) 6 0 0 (Int64.ofNat (agF C R a x0 (trT (tb 0 M) (tb 1 M)) A).2.1))) 12 0 28 (Int64.ofNat x0))) = _ from r1]
        exact t_agAns (N := sL _ 12 0 28 _) hl1 s2 r3 r2 o1 hf
    obtain ⟨X', r1, r2⟩ := hrun
    have em := e_mapped (fu := fu) (d := 1) (D := (agE C R a x0 (trT (tb 0 M) (tb 1 M)) A).2.2) (M := sL (sR M 2 1 4 (some a)) 6 0 0 (Int64.ofNat (agE C R a x0 (trT (tb 0 M) (tb 1 M)) A).2.1)) h2 (by omega) (by omega)
    have hk4 : KE (agE C R a x0 (trT (tb 0 M) (tb 1 M)) A).2.2 (tb 1 M) := KE_tr KE_tr0 o4
    generalize agE C R a x0 (trT (tb 0 M) (tb 1 M)) A = G at *
    generalize hr : (if z = 0 then i3 G.1 else if z = 1 then G.2.2 15 3 else i3 (cnt (fun i => ! decide (G.2.2 9 i = 0)) 20)) = r at r1
    have n0 : ¬ X' 0 22 = i3 0 := fun q => by
      have := (r2.2.2 0 (by omega) (by omega) q).1
      rw [k5] at this
      exact absurd this (neg_i3 (by omega))
    have hf0 : F_X11_ages fu 0 (i3 x0) (i3 A) z M = some (r, emb 1 G.2.2 (sL (sR M 2 1 4 (some a)) 6 0 0 (Int64.ofNat G.2.1))) := by
      unfold F_X11_ages
      rw [l11_0_6 h]
      simp only [Option.bind_some]
      rw [e1, if_neg c1, if_neg c2, if_neg c3, if_neg c4, if_neg c5, if_neg c6, if_pos (Int32.not_lt.mp c7), et]
      simp only [Option.bind_some, gR_emb]
      rw [l11_0_10 h2, l11_0_7 h2]
      simp only [Option.bind_some]
      rw [er]
      simp only [Option.bind_some, gR_emb]
      have h3 : Lay (sL (sR M 2 1 4 (some a)) 6 0 0 (Int64.ofNat G.2.1)) := h2
      rcases hz with rfl | rfl | rfl
      · rw [if_neg (fun q => q rfl)]
        rw [if_pos rfl] at hr
        rw [hr]
      · rw [if_pos (by decide), if_neg (fun q => q rfl), l11_0_7 h3]
        simp only [Option.bind_some]
        rw [l2_0 h3 (by omega)]
        simp only [Option.bind_some, r_c]
        rw [if_neg (by decide), if_pos rfl] at hr
        rw [hr]
      · rw [if_pos (by decide), if_pos (by decide), l11_0_7 h3]
        simp only [Option.bind_some]
        rw [em]
        rw [if_neg (by decide), if_neg (by decide)] at hr
        rw [hr]
        rfl
    have hb := op_trial (r := r) (f := F_X11_ages fu 0 (i3 x0) (i3 A) z) (g := fun _ => some (r, mmb X' (emb 1 G.2.2 (sL (sR M 2 1 4 (some a)) 6 0 0 (Int64.ofNat G.2.1))))) (T := G.2.2) (N := sL (sR M 2 1 4 (some a)) 6 0 0 (Int64.ofNat G.2.1)) hS hf0 rfl h2 (fun c s k q => ?_) (fun c s k q => ?_) hk4 ⟨X', rfl, Fm_tr k4 r2, n0⟩
    · obtain ⟨r', M1, M2, b1, b2, b3⟩ := hb
      injection b2 with b2
      injection b2 with b4 b5
      rw [← b5] at b3
      refine ⟨r, _, _, hf0, ?_, Sim_sL (y64 := Int64.ofNat G.2.1) b3⟩
      have hm : mmb (tX M) (emb 1 G.2.2 (sL (sR M 2 1 4 (some a)) 6 0 0 (Int64.ofNat G.2.1))) = emb 1 G.2.2 (sL (sR M 2 1 4 (some a)) 6 0 0 (Int64.ofNat G.2.1)) := by
        have hx : tX (sL (sR M 2 1 4 (some a)) 6 0 0 (Int64.ofNat G.2.1)) = tX M := rfl
        rw [← hx]; exact mX_emb (by omega)
      have hsd : sL (mmb X2 (emb 1 G.2.2 (sL (sR M 2 1 4 (some a)) 6 0 0 (Int64.ofNat G.2.1)))) 12 0 28 (Int64.ofNat x0) = mmb X2 (sL (emb 1 G.2.2 (sL (sR M 2 1 4 (some a)) 6 0 0 (Int64.ofNat G.2.1))) 12 0 28 (Int64.ofNat x0)) := rfl
      have e9' : ¬ up (tX M) 0 0 0 95 2 = 0 := fun q => c1 (x2.symm.trans ((l2' _).symm.trans q))
      have at' := t_agTo (fu := fu) (X := tX M) (M := emb 1 G.2.2 (sL (sR M 2 1 4 (some a)) 6 0 0 (Int64.ofNat G.2.1))) (x0 := x0) (y := i3 A) (z := z) hl1 c2 c3 c4 c5 c6 c7 hx0 e9' k1
      rw [hm] at at'
      rw [at']
      exact r1
    · show (if c = 2 ∧ s = 1 ∧ k = 4 then some a else gR M c s k) = gR M c s k
      rw [if_neg (by omega)]
    · show (if c = 6 ∧ s = 0 ∧ k = 0 then _ else gL M c s k) = gL M c s k
      rw [if_neg (by omega)]
end
