/-! ===== feed: the call ===== -/
section
variable {M M' N : xM} {D X X' : xT} {C : xC} {R : Nat → Int32} {q r : Nat × (Nat → Int32)} {a w B fu l n m i k d c' s' : Nat} {c s : Int32} {x y z : Int64} {W : Nat → Nat} {V : Nat → Nat → Int32}
theorem op_feed (hS : SimP C R a w n W V B M) (hf : 1100 < fu) : Both C R a w n W V B (F_X11_feed fu 0 x y z) (F_X12_feed fu 0 x y z) M := by
  obtain ⟨s1, s2, s3, s4, s5, s6, s7, s8, s9, s10, s11, s12, s13, ⟨t, t1, t2, t3, t4⟩, s15⟩ := id hS
  have h := s1.1
  have hE : tpE (t, gI M 23 0) (t, tX M 87) := ⟨rfl, fun i hi => (t4 i hi).1⟩
  have hr : tpOk (t, tX M 87) := ⟨t1, fun i hi => (t4 i hi).2⟩
  have hq : tpOk (t, gI M 23 0) := ⟨t1, fun i hi => by
    obtain ⟨e, c, g1, g2⟩ := t4 i hi
    exact ⟨c, g1, e.trans g2⟩⟩
  have hE3 : tpE (adL z (adL y (adL x (t, gI M 23 0)))) (adL z (adL y (adL x (t, tX M 87)))) := adL_E (adL_E (adL_E hE))
  have hr1 : tpOk (adL x (t, tX M 87)) := adL_ok hr
  have hr2 : tpOk (adL y (adL x (t, tX M 87))) := adL_ok hr1
  have hr3 : tpOk (adL z (adL y (adL x (t, tX M 87)))) := adL_ok hr2
  have hq1 : tpOk (adL x (t, gI M 23 0)) := adL_ok hq
  have hq2 : tpOk (adL y (adL x (t, gI M 23 0))) := adL_ok hq1
  have f1 := e_addL (fu := fu) (x := x) h hq (by omega)
  have f2 := e_addL (fu := fu) (x := y) h hq1 (by omega)
  have f3 := e_addL (fu := fu) (x := z) h hq2 (by omega)
  rw [tpM_self t2] at f1
  have hN : Lay (tpM M (adL z (adL y (adL x (t, gI M 23 0))))) := h
  have b0 : up (tX M) 0 0 0 0 2 = i3 t := (up_ne (by omega)).trans t3
  have g1 := t_layL (fu := fu) (x := x) (X := up (tX M) 0 0 0) hN hr (by omega)
  have g2 := t_layL (fu := fu) (x := y) (X := up (tX M) 0 0 0) hN hr1 (by omega)
  have g3 := t_layL (fu := fu) (x := z) (X := up (tX M) 0 0 0) hN hr2 (by omega)
  have e87 : up (tX M) 0 0 0 87 = tX M 87 := funext fun k => up_ne (by omega)
  rw [← e87, tpX_self b0, e87] at g1
  generalize adL z (adL y (adL x (t, gI M 23 0))) = q3 at f3 hN g1 g2 g3 hE3
  generalize hr3' : adL z (adL y (adL x (t, tX M 87))) = r3 at g3 hE3 hr3
  have hof : ∀ c s k, ¬ bs c s → gI (tpM M q3) c s k = gI M c s k := fun c s k hb => tpM_o ⟨fun z => hb (by rw [z]; exact bs_c (by omega)), fun z => hb (by rw [z]; exact bs_c (by omega))⟩
  have hX : tX (tpM M q3) = tX M := tX_off hof
  have hm : tpM M q3 = mmb (tX M) (tpM M q3) := by rw [← hX]; exact (mmb_tX _).symm
  have hXX : ∀ j k, mrow j → tX (mmb (tpX (up (tX M) 0 0 0) r3) (tpM M q3)) j k = tpX (up (tX M) 0 0 0) r3 j k := fun j k hj => tX_mmb hj
  have hXo : ∀ j k, mrow j → (j ≠ 0 ∨ k ≠ 0 ∧ k ≠ 2) → j ≠ 87 → tX (mmb (tpX (up (tX M) 0 0 0) r3) (tpM M q3)) j k = tX M j k := fun j k hj h1 h2 => by
    rw [hXX j k hj]
    show (if j = 0 ∧ k = 2 then i3 r3.1 else if j = 87 then r3.2 k else up (tX M) 0 0 0 j k) = tX M j k
    rw [if_neg (by omega), if_neg h2, up_ne (by omega)]
  refine ⟨i3 q3.1, tpM M q3, mmb (tpX (up (tX M) 0 0 0) r3) (tpM M q3), ?_, ?_, Sim_tp hS ⟨hN, fun _ _ _ => rfl, fun _ _ _ => rfl, fun c s k hk => ?_, fun d j k hd hj => ?_, fun j k hj => ?_⟩ ?_ ?_⟩
  · unfold F_X11_feed
    rw [l11_0_0 h]
    simp only [Option.bind_some]
    rw [f1]
    simp only [Option.bind_some]
    rw [l11_0_0 (M := tpM M (adL x (t, gI M 23 0))) h]
    simp only [Option.bind_some]
    rw [f2]
    simp only [Option.bind_some]
    rw [l11_0_0 (M := tpM M (adL y (adL x (t, gI M 23 0)))) h]
    simp only [Option.bind_some]
    rw [f3]
    simp only [Option.bind_some]
    rw [l11_0_0 hN]
    rfl
  · conv => lhs; rw [hm]
    unfold F_X12_feed
    simp only [sI_th]
    rw [g1]
    simp only [Option.bind_some]
    rw [g2]
    simp only [Option.bind_some]
    rw [g3]
    simp only [Option.bind_some]
    rw [m_0]
    have e2 : tpX (up (tX M) 0 0 0) r3 0 2 = i3 r3.1 := by unfold tpX; rw [if_pos ⟨rfl, rfl⟩]
    rw [e2, hE3.1]
  · have hmo : mow c s = none := by
      unfold keepC at hk
      have ha := s1.2.1
      have hw := s1.2.2.1
      rcases hk with q | q | q | q | q | q | q
      · exact (bs_c (by omega)).2
      · exact (bs_c (by omega)).2
      · exact (bs_c (by omega)).2
      · exact (bs_c (by omega)).2
      · exact (bs_c (by omega)).2
      · rw [q.1]; exact (bs_20 (by omega)).2
      · rw [q.1]; exact (bs_22 (by omega)).2
    rw [mI_not hmo]
    exact tpM_o (by unfold keepC at hk; omega)
  · rw [tb_mmb hd, tb_off (M := M) hof hd]
  · exact hXo j k (mrow_of (by omega)) (by omega) (by omega)
  · exact RuleAs_fm s5 (hXo 90 4 (mrow_of (by omega)) (by omega) (by omega)) (fun k => hXo 91 k (mrow_of (by omega)) (by omega) (by omega))
  · refine ⟨q3.1, by rw [hE3.1]; exact hr3.1, ?_, ?_, fun i hi => ?_⟩
    · rw [mI_not (bs_c (by omega)).2]; rfl
    · rw [hXX 0 2 (mrow_of (by omega)), hE3.1]
      show (if 0 = 0 ∧ 2 = 2 then i3 r3.1 else _) = i3 r3.1
      rw [if_pos ⟨rfl, rfl⟩]
    · have e1 : gI (mmb (tpX (up (tX M) 0 0 0) r3) (tpM M q3)) 23 0 i = q3.2 i := mI_not (bs_c (by omega)).2
      have e2 : tX (mmb (tpX (up (tX M) 0 0 0) r3) (tpM M q3)) 87 i = r3.2 i := hXX 87 i (mrow_of (by omega))
      rw [e1, e2]
      exact ⟨hE3.2 i hi, hr3.2 i (by rw [← hE3.1]; exact hi)⟩
end
