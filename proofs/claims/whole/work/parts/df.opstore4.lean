/-! ===== a PLAN told: the call, together ===== -/
section
variable {M M' M1 N N' N1 N2 : xM} {X X' Y Y' Y1 Y2 : xT} {f : Nat → Nat} {fu l t T n i j k d s x a b w F e m g lo hi p B : Nat} {c ls : List Nat} {q : Nat × Nat} {u v y0 : Int32} {nm : Nat → List Nat} {S S' : plS} {y : Int64} {C : xC} {R : Nat → Int32} {D : xT} {W : Nat → Nat} {V : Nat → Nat → Int32}
theorem op_store (hS : SimP C R a w n W V B M) (hf : 1100 < fu) : ∃ r M1 M2 C' R' a' n', F_X11_store fu 0 M = some (r, M1) ∧ F_X12_store fu 0 M1 = some (r, M2) ∧ SimP C' R' a' w n' W V B M2 := by
  obtain ⟨s1, s2, s3, s4, s5, s6, s7, s8, s9, s10, s11, s12, s13, s14, s15⟩ := id hS
  have h := s1.1
  obtain ⟨b1, b2, b3, b4, b5, b6, b7⟩ := s1
  obtain ⟨f, t, hT, h02, ht, h87⟩ := tape_f s14 h
  obtain ⟨Y0, N0, T, r1, r2, r3, r4, r5, r6⟩ := t_cutAll (f := f) (X := tX M) (N := M) hf h s15 h02 ht h87
  have hTt : T ≤ t := r3.1.2.2.2.2.1
  have ha1 : 1 - a < 2 := by omega
  obtain ⟨M', e1, e2, e3, e4⟩ := e_planRead (fu := fu) ha1 hf hT r4 (show T ≤ 1000 by omega)
  have e1' : F_X7_read fu (1 - a) (some 0) M = some (bz (decide ((plA f t).1 = 0)), M') := e1
  have e2' : LnC f t ((plA f t).1, (plA f t).2.1) M' := e2
  have e4' : (plA f t).1 = 0 → PlC (1 - a) (plA f t).2.2 M' ∧ PlOk (plA f t).2.2 := e4
  have hLM' : Lay M' := e2.1.1
  have hI' : ∀ c s k, ¬ bs c s → gI M' c s k = gI M c s k := fun c s k hb => e3.2.2.2 c s k (Or.inl fun z => hb (by rw [z]; exact bs_c (by omega))) (Or.inl fun z => hb (by rw [z]; exact bs_c (by omega))) (Or.inl fun z => hb (by rw [z]; exact bs_c (by omega))) (by
    by_cases c20 : c = 20
    · subst c20
      by_cases z : s < 5 * (1 - a) ∨ 5 * (1 - a) + 3 ≤ s
      · omega
      · exact absurd (bs_20 (by omega)) hb
    · omega)
  by_cases p0 : (plA f t).1 = 0
  · -- stored
    obtain ⟨hP, hO⟩ := e4' p0
    have hM1 : ∃ M1, M1 = anW (plA f t).2.2.1 (1 - a) w (sR (sR M' 11 0 1 (some (1 - a))) 11 0 2 (some a)) := ⟨_, rfl⟩
    obtain ⟨M1, hM1⟩ := hM1
    have hLs : Lay (sR (sR M' 11 0 1 (some (1 - a))) 11 0 2 (some a)) := Lay_sR (Lay_sR hLM' (by decide)) (by decide)
    have hLay1 : Lay M1 := by rw [hM1]; exact anW_lay hLs
    have g1 : F_X11_store fu 0 M = some (0, M1) := by
      unfold F_X11_store
      rw [b5, l11_0_0 h]
      simp only [Option.bind_some]
      rw [e1']
      simp only [Option.bind_some]
      rw [decide_eq_true p0, if_neg (show ¬ bz true = 0 from by decide), e3.1, e3.1, b4, b5, hM1]
      exact e_anew hLs (by rw [gR_sR, if_neg (by omega), gR_sR, if_pos ⟨rfl, rfl, rfl⟩]) (by rw [gR_sR, if_neg (by omega), gR_sR, if_neg (by omega)]; exact (e3.1 _ _ _).trans b6) (Cfg_sR1 (Cfg_sR1 (Cfg_pl hP hO))) hf (show bz true ≠ 0 by decide)
    have hW1 : PWords M1 := fun k hk => by
      rw [hM1, anW_L]
      exact (e3.2.2.1 21 3 k (by omega) (by omega)).trans (s15 k hk)
    have hX1 : ∀ j k, mrow j → j ≠ 1 → tX M1 j k = tX M j k := fun j k hj h1 => by
      have key : ∀ c s, mow c s ≠ none → (c = 12 ∨ c = 20) → gI M1 c s k = gI M c s k := fun c s hm hc => by
        have hb : ¬ bs c s := fun z => hm z.2
        rw [hM1, anW_I, if_neg (by omega), if_neg (by omega), if_neg (by omega), if_neg (by omega), if_neg (by omega), if_neg (by omega)]
        have ho : own 0 c s = none := by
          rcases hc with rfl | rfl
          · rfl
          · have h87 : 87 ≤ s ∧ s < 99 := by
              by_cases z : 87 ≤ s ∧ s < 99
              · exact z
              · exact absurd (show mow 20 s = none by unfold mow; rw [if_neg (by decide), if_pos rfl, if_neg z]) hm
            exact (own_m ⟨0, by omega⟩).2.2 ⟨s, h87.2⟩ h87.1
        rw [gI_not ho]
        exact hI' c s k hb
      unfold tX
      by_cases c0 : j = 0
      · rw [if_pos c0, if_pos c0]
        exact key 12 0 (by decide) (by omega)
      · rw [if_neg c0, if_neg c0, if_neg h1, if_neg h1]
        have h87 : 87 ≤ j ∧ j < 99 := by
          rcases hj with z | z | z
          · exact absurd z c0
          · exact absurd z h1
          · exact z
        rw [if_pos h87, if_pos h87]
        exact key 20 j (by unfold mow; rw [if_neg (by decide), if_pos rfl, if_pos h87]; intro z; cases z) (by omega)
    have hmm : M1 = mmb (tX M1) M1 := (mmb_tX M1).symm
    obtain ⟨T', Y2, N1, N2, u1, u2, u3, u4, u5, u6, u7, u8⟩ := t_store (fu := fu) (f := f) (X := tX M1) (N := M1) hf hLay1 hW1 ((hX1 0 2 (mrow_of (by omega)) (by omega)).trans h02) ht (fun i hi => by rw [hX1 87 i (mrow_of (by omega)) (by omega)]; exact h87 i hi)
    obtain ⟨v1, v2, c, v3, v4, v5, v6⟩ := u8 p0
    refine ⟨0, M1, _, _, _, _, _, g1, ?_, Sim_st hS hP hO e3 hM1 u3 u4 v1 u5 v4 v5⟩
    conv => lhs; rw [hmm]
    exact v6
  · -- a fault
    have hM1 : ∃ M1, M1 = sI M' 10 0 1 0 := ⟨_, rfl⟩
    obtain ⟨M1, hM1⟩ := hM1
    have hLay1 : Lay M1 := by rw [hM1]; exact hLM'
    have g1 : F_X11_store fu 0 M = some (i3 (plA f t).1, M1) := by
      unfold F_X11_store
      rw [b5, l11_0_0 h]
      simp only [Option.bind_some]
      rw [e1']
      simp only [Option.bind_some]
      rw [decide_eq_false p0, if_pos (show bz false = 0 from rfl), l11_0_0 hLM']
      simp only [Option.bind_some]
      rw [taken_e, if_pos (show bz false = 0 from rfl), e2'.2.2 p0, hM1]
      rfl
    have hI1 : ∀ c s k, ¬ bs c s → gI M1 c s k = gI M c s k := fun c s k hb => by
      have n10 : c ≠ 10 := fun z => hb (by rw [z]; exact bs_c (by omega))
      rw [hM1, gI_sI, if_neg (by omega)]
      exact hI' c s k hb
    have hX1 : tX M1 = tX M := tX_off hI1
    have hL1 : ∀ s k, s ≠ 1 - a → gL M1 21 s k = gL M 21 s k := fun s k q => by
      rw [hM1]; exact e3.2.2.1 21 s k (by omega) (by omega)
    have hW1 : PWords M1 := fun k hk => (hL1 3 k (by omega)).trans (s15 k hk)
    have hmm : M1 = mmb (tX M) M1 := by rw [← hX1]; exact (mmb_tX M1).symm
    obtain ⟨T', Y2, N1, N2, u1, u2, u3, u4, u5, u6, u7, u8⟩ := t_store (fu := fu) (f := f) (X := tX M) (N := M1) hf hLay1 hW1 h02 ht h87
    have hN2 : ∀ c s k, gI N2 c s k = gI M1 c s k := fun c s k => congrFun (congrFun (congrFun (u4.1.trans u3.2.1) c) s) k
    have hoff : ∀ c s k, mow c s = none → gI (mmb Y2 N2) c s k = gI M1 c s k := fun c s k hm => (mI_not hm).trans (hN2 c s k)
    have htb : ∀ d, d < 5 → tb d (mmb Y2 N2) = tb d M := fun d hd => by
      rw [tb_mmb hd, tb_off (M := M) (M' := N2) (fun c s k hb => (hN2 c s k).trans (hI1 c s k hb)) hd]
    have hLN2 : Lay N2 := Lay_N u3.1 u4
    refine ⟨i3 (plA f t).1, M1, mmb Y2 N2, C, R, a, n, g1, ?_, Sim_tp hS ⟨hLN2, fun c s k => ?_, fun s k hk => ?_, fun c s k hk => ?_, fun d j k hd hj => by rw [htb d hd], fun j k hj => ?_⟩ ?_ ?_⟩
    · conv => lhs; rw [hmm]
      exact u7 p0
    · rw [gR_mmb, u4.2.1, u3.2.2.1, hM1]; exact e3.1 c s k
    · rw [gL_mmb, u4.2.2.2 _ _ _ (by omega), u3.2.2.2.2 _ _ _ (by omega)]; exact hL1 s k (by omega)
    · unfold keepC at hk
      have hmo : mow c s = none := by
        rcases hk with q | q | q | q | q | q | q
        · exact (bs_c (by omega)).2
        · exact (bs_c (by omega)).2
        · exact (bs_c (by omega)).2
        · exact (bs_c (by omega)).2
        · exact (bs_c (by omega)).2
        · rw [q.1]; exact (bs_20 (by omega)).2
        · rw [q.1]; exact (bs_22 (by omega)).2
      rw [hoff c s k hmo, hM1, gI_sI, if_neg (by omega)]
      exact e3.2.2.2 c s k (by omega) (by omega) (by omega) (by omega)
    · rw [tX_mmb (mrow_of (by omega))]
      exact u6 j k (by omega) (by omega) (by omega) (by omega) (by omega)
    · exact RuleAs_1100 s5 ((tX_mmb (mrow_of (by omega))).trans (u6 90 4 (by omega) (by omega) (by omega) (by omega) (by omega))) (fun k hk => (tX_mmb (mrow_of (by omega))).trans (u6 91 k (by omega) (by omega) (by omega) (by omega) (by omega)))
    · refine ⟨0, by omega, ?_, ?_, fun i hi => absurd hi (Nat.not_lt_zero _)⟩
      · rw [hoff _ _ _ (bs_c (by omega)).2, hM1, gI_sI, if_pos ⟨rfl, rfl, rfl⟩]; rfl
      · rw [tX_mmb (mrow_of (by omega))]; exact u5
end
