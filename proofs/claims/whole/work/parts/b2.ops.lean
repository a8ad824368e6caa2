/-! ===== the store's own deeds: both sides ===== -/
/-- both sides answer alike, and it holds behind it -/
def Both (C : xC) (R : Nat → Int32) (a w n : Nat) (W : Nat → Nat) (V : Nat → Nat → Int32) (B : Nat) (f g : xM → Option (Int32 × xM)) (M : xM) : Prop :=
  ∃ r M1 M2, f M = some (r, M1) ∧ g M1 = some (r, M2) ∧ SimP C R a w n W V B M2
section
variable {M M' : xM} {D E X X' : xT} {C : xC} {R Bv S : Nat → Int32} {d e fu n m i j o p q a c k l s w K P L L' b B B' : Nat} {v x y r : Int32} {W A : Nat → Nat} {V : Nat → Nat → Int32}
theorem up0_Rel (hR : Rel C b D X) : Rel C b D (up X 0 0 v) := Rel_95 hR (fun k => up_ne (by omega))
theorem up0_M (hM : MCfg C X) : MCfg C (up X 0 0 v) := MCfg_90 hM (fun k => up_ne (by omega))
theorem up0_U (hU : RuleAs C R X) : RuleAs C R (up X 0 0 v) := RuleAs_fm hU (up_ne (by omega)) (fun k => up_ne (by omega))
theorem up0_Lk (h : X 0 22 = i3 b → Lk D X) : up X 0 0 v 0 22 = i3 b → Lk D (up X 0 0 v) := by
  intro q
  rw [up_ne (by omega)] at q
  have := h q
  unfold Lk at this ⊢
  rw [up_ne (by omega), up_ne (by omega)]
  exact this
theorem mX_emb (hd : d < 5) : mmb (tX M) (emb d E M) = emb d E M := by
  have h := mmb_tX (emb d E M)
  rw [tX_emb hd] at h
  exact h
theorem sI_th : sI (mmb X M) 12 0 0 0 = mmb (up X 0 0 0) M := p_0
theorem op_deed {f g : xM → Option (Int32 × xM)} (hS : SimP C R a w n W V B M) (hBB : B + 1 ≤ B') (hB2 : B' < 1000000) (hL : L' ≤ B') (hf : f M = some (r, emb 0 E M)) (hI : Inv C L' E) (hV : InV C E) (hK : KE E (tb 0 M)) (hZ : Z1 E (tb 0 M))
    (hg : ∀ M1, Lay M1 → ∃ X', g (mmb (tX M) M1) = some (r, mmb X' M1) ∧ Rel C 0 E X' ∧ Fm 0 (up (tX M) 0 0 0) X' ∧ (X' 0 22 = i3 0 → Lk E X')) : Both C R a w n W V B' f g M := by
  obtain ⟨X', g1, g2, g3, g4⟩ := hg (emb 0 E M) hS.1.1
  rw [mX_emb (by omega)] at g1
  refine ⟨r, _, _, hf, g1, Sim_deed hS (by omega) hL hI hV g2 hK g3 g4 (fun k hk => ?_)⟩
  obtain ⟨L0, q1, q2, q3, q4, q5, q6⟩ := hS.2.2.2.2.2.2.1
  obtain ⟨c, r1, r2⟩ := q6 k hk
  rcases hZ k with z | z
  · exact ⟨c, by omega, z.trans r2⟩
  · exact ⟨c + 1, by omega, by rw [z, r2, i3_add1]⟩
theorem dec02 : decide (0 = 2) = false := by decide
theorem op_write (hS : SimP C R a w n W V B M) (hBB : B + 8 < 1000000) (hf : 1100 < fu) : Both C R a w n W V (B + 8) (F_X11_write fu 0 x y v) (F_X12_write fu 0 x y v) M := by
  obtain ⟨s1, s2, s3, s4, s5, s6, ⟨L, l1, l2, l3, l4, l5, l6⟩, s8, s9, s10, s11, s12, s13, s14, s15⟩ := id hS
  have h := s1.1
  have ew := e_write (fu := fu) (M := M) (D := tb 0 M) (d := 0) (x := x) (y := y) (v := v) h (by omega) s1.2.1 s3 l5 (Okd3 l2 |>.1 |> fun q => ⟨q, fun q2 => absurd q2 (by decide)⟩) hf
  rw [dec02, emb_tb] at ew
  obtain ⟨i1, i2⟩ := Inv_write (R := R) (a := a) (x := x) (y := y) (v := v) s2 l2 l3 (by omega) false
  refine op_deed (r := (writeT C R a false (tb 0 M) x y v).1) (E := (writeT C R a false (tb 0 M) x y v).2) hS (by omega) (by omega) (show L + 8 ≤ B + 8 by omega) ?_ i1 i2 (KE_write s2 l2 l3 (by omega)) (Z1_write s2 l2 l3 (by omega)) (fun M1 h1 => ?_)
  · unfold F_X11_write
    rw [l11_0_6 h]
    simp only [Option.bind_some]
    rw [ew]
    rfl
  · unfold F_X12_write F_X12_within
    simp only [sI_th]
    by_cases c1 : v < 0
    · have e1 : writeT C R a false (tb 0 M) x y v = (-1, tb 0 M) := by
        unfold writeT
        rw [if_neg (by simp [c1])]
      rw [e1, if_pos c1, xb_f, gd_t]
      simp only [Option.bind_some]
      rw [if_pos trivial]
      exact ⟨_, rfl, up0_Rel l4, Fm_rf, up0_Lk s8⟩
    · rw [if_neg c1]
      by_cases c2 : 255 < v
      · have e1 : writeT C R a false (tb 0 M) x y v = (-1, tb 0 M) := by
          unfold writeT
          rw [if_neg (by simp [Int32.not_le.mpr c2])]
        rw [e1, if_pos c2, xb_f, gd_t]
        simp only [Option.bind_some]
        rw [if_pos trivial]
        exact ⟨_, rfl, up0_Rel l4, Fm_rf, up0_Lk s8⟩
      · rw [if_neg c2, xb_t, gd_t]
        simp only [Option.bind_some]
        rw [if_neg (by decide)]
        obtain ⟨g, hg, rfl⟩ := i3_of (Int32.not_lt.mp c1)
        have hg2 : g ≤ 255 := (i3_le (b := 255) hg (by omega)).mp (Int32.not_lt.mp c2)
        obtain ⟨X', k1, k2, k3, k4, k5, k6⟩ := t_writes (fu := fu) (M := M1) (x := x) (y := y) (a := a) h1 (up0_M (v := 0) s4) (show 0 ≤ 2140 by omega) s2 (up0_U s5) (up0_Rel l4) l2 l3 (by omega) (up0_Lk s8) hf hg2 false
        rw [show (0 : Int32) = i3 0 from rfl]
        rw [show (i3 0) = (0 : Int32) from rfl] at k1
        refine ⟨X', ?_, k2, k4, k5⟩
        show (F_X12_writes fu 0 0 x y (i3 g) (mmb (up (tX M) 0 0 0) M1)).bind _ = _
        rw [k1]
        rfl
theorem op_remove (hS : SimP C R a w n W V B M) (hBB : B + 8 < 1000000) (hf : 1100 < fu) : Both C R a w n W V (B + 8) (F_X11_remove fu 0 x) (F_X12_remove fu 0 x) M := by
  obtain ⟨s1, s2, s3, s4, s5, s6, ⟨L, l1, l2, l3, l4, l5, l6⟩, s8, s9, s10, s11, s12, s13, s14, s15⟩ := id hS
  have h := s1.1
  have ew := e_remove (fu := fu) (M := M) (D := tb 0 M) (d := 0) (x := x) h (by omega) s1.2.1 s3 l5 ⟨l2.1, fun q2 => absurd q2 (by decide)⟩ hf
  rw [dec02, emb_tb] at ew
  obtain ⟨i1, i2⟩ := Inv_remove (R := R) (a := a) (x := x) s2 l2 l3 (by omega) false
  refine op_deed (r := (removeT C R a false (tb 0 M) x).1) (E := (removeT C R a false (tb 0 M) x).2) hS (by omega) (by omega) (show L + 8 ≤ B + 8 by omega) ?_ i1 i2 (KE_remove s2 l2 l3 (by omega)) (Z1_remove s2 l2 l3 (by omega)) (fun M1 h1 => ?_)
  · unfold F_X11_remove
    rw [l11_0_6 h]
    simp only [Option.bind_some]
    rw [ew]
    rfl
  · unfold F_X12_remove
    simp only [sI_th]
    obtain ⟨X', k1, k2, k3, k4, k5, k6⟩ := t_removes (fu := fu) (M := M1) (x := x) (a := a) h1 (up0_M (v := 0) s4) (show 0 ≤ 2140 by omega) s2 (up0_U s5) (up0_Rel l4) l2 l3 (by omega) (up0_Lk s8) hf false
    refine ⟨X', ?_, k2, k4, k5⟩
    show (F_X12_removes fu 0 (i3 0) x (mmb (up (tX M) 0 0 0) M1)).bind _ = _
    rw [k1]
    rfl
theorem op_open (hS : SimP C R a w n W V B M) (hBB : B + 8 < 1000000) (hf : 1100 < fu) : Both C R a w n W V (B + 8) (F_X11_open fu 0 x) (F_X12_open fu 0 x) M := by
  obtain ⟨s1, s2, s3, s4, s5, s6, ⟨L, l1, l2, l3, l4, l5, l6⟩, s8, s9, s10, s11, s12, s13, s14, s15⟩ := id hS
  have h := s1.1
  have ew := e_open (fu := fu) (M := M) (D := tb 0 M) (d := 0) (x := x) h (by omega) s1.2.1 s3 l5
  rw [emb_tb] at ew
  refine op_deed (r := bz (openT C (tb 0 M) x).1) (E := (openT C (tb 0 M) x).2) hS (by omega) (by omega) (show L ≤ B + 8 by omega) ?_ (Inv_open l2 s2.2.2.2.1) (InV_open l3) KE_open (Z1_of ZE_open) (fun M1 h1 => ?_)
  · unfold F_X11_open
    rw [l11_0_6 h]
    simp only [Option.bind_some]
    rw [ew]
    simp only [Option.bind_some, bz_x, gd_t]
  · unfold F_X12_open
    simp only [sI_th]
    obtain ⟨X', k1, k2, k3, k4, k5, k6⟩ := Po_open2 (nt := false) (fu := fu) (M := M1) (x := x) h1 (up0_M (v := 0) s4) (show 0 ≤ 2140 by omega) s2 (up0_Rel l4) l2 (up0_Lk s8) (by omega)
    refine ⟨X', ?_, k2, k4, k5⟩
    show (F_X12_opens fu 0 (i3 0) x 1 (mmb (up (tX M) 0 0 0) M1)).bind _ = _
    rw [k1]
    simp only [Option.bind_some, bz_x, gd_t]
theorem op_close (hS : SimP C R a w n W V B M) (hBB : B + 8 < 1000000) (hf : 1100 < fu) : Both C R a w n W V (B + 8) (F_X11_close fu 0 x) (F_X12_close fu 0 x) M := by
  obtain ⟨s1, s2, s3, s4, s5, s6, ⟨L, l1, l2, l3, l4, l5, l6⟩, s8, s9, s10, s11, s12, s13, s14, s15⟩ := id hS
  have h := s1.1
  have ew := e_close (fu := fu) (M := M) (D := tb 0 M) (d := 0) (x := x) h (by omega) s1.2.1 s3 l5 (by omega)
  rw [emb_tb] at ew
  refine op_deed (r := bz (closeT C (tb 0 M) x).1) (E := (closeT C (tb 0 M) x).2) hS (by omega) (by omega) (show L ≤ B + 8 by omega) ?_ (Inv_close l2 s2.2.2.2.1) (InV_close l3) KE_close (Z1_of ZE_close) (fun M1 h1 => ?_)
  · unfold F_X11_close
    rw [l11_0_6 h]
    simp only [Option.bind_some]
    rw [ew]
    simp only [Option.bind_some, bz_x, gd_t]
  · unfold F_X12_close
    simp only [sI_th]
    obtain ⟨X', k1, k2, k3, k4, k5, k6⟩ := Po_close2 (nt := false) (fu := fu) (M := M1) (x := x) h1 (up0_M (v := 0) s4) (show 0 ≤ 2140 by omega) s2 (up0_Rel l4) l2 (up0_Lk s8) (by omega)
    refine ⟨X', ?_, k2, k4, k5⟩
    show (F_X12_opens fu 0 (i3 0) x 0 (mmb (up (tX M) 0 0 0) M1)).bind _ = _
    rw [k1]
    simp only [Option.bind_some, bz_x, gd_t]
theorem op_commit (hS : SimP C R a w n W V B M) (hBB : B + 8 < 1000000) (hf : 1100 < fu) : Both C R a w n W V (B + 8) (F_X11_commit fu 0) (F_X12_commit fu 0) M := by
  obtain ⟨s1, s2, s3, s4, s5, s6, ⟨L, l1, l2, l3, l4, l5, l6⟩, s8, s9, s10, s11, s12, s13, s14, s15⟩ := id hS
  have h := s1.1
  have ew := e_commit (fu := fu) (M := M) (D := tb 0 M) (d := 0) (nb := C 0 0) (nw := C 0 1) h (by omega) ⟨l2.1, fun q2 => absurd q2 (by decide)⟩ (by omega)
  rw [dec02, emb_tb] at ew
  refine op_deed (r := (commitT false (tb 0 M) (C 0 0) (C 0 1)).1) (E := (commitT false (tb 0 M) (C 0 0) (C 0 1)).2) hS (by omega) (by omega) (show L + 6 ≤ B + 8 by omega) ?_ (Inv_commit s2 l2 (by omega) false) (InV_commit s2 l2 l3 (by omega) false) (KE_commit s2 l2 (by omega)) (Z1_of (ZE_commit s2 l2 (by omega))) (fun M1 h1 => ?_)
  · unfold F_X11_commit
    rw [l11_0_6 h]
    simp only [Option.bind_some]
    rw [ew]
    rfl
  · unfold F_X12_commit
    simp only [sI_th]
    obtain ⟨X', k1, k2, k3, k4, k5, k6⟩ := t_commits (fu := fu) (M := M1) h1 (up0_M (v := 0) s4) (show 0 ≤ 2140 by omega) s2 (up0_Rel l4) l2 (by omega) (up0_Lk s8) (by omega) false
    refine ⟨X', ?_, k2, k4, k5⟩
    show (F_X12_commits fu 0 (i3 0) (mmb (up (tX M) 0 0 0) M1)).bind _ = _
    rw [k1]
    rfl
theorem op_collect (hS : SimP C R a w n W V B M) (hBB : B + 8 < 1000000) (hf : 1100 < fu) : Both C R a w n W V (B + 8) (F_X11_collect fu 0) (F_X12_collect fu 0) M := by
  obtain ⟨s1, s2, s3, s4, s5, s6, ⟨L, l1, l2, l3, l4, l5, l6⟩, s8, s9, s10, s11, s12, s13, s14, s15⟩ := id hS
  have h := s1.1
  have ew := e_collect (fu := fu) (M := M) (D := tb 0 M) (d := 0) (nb := C 0 0) (nw := C 0 1) h (by omega) ⟨l2.1, fun q2 => absurd q2 (by decide)⟩ (by omega)
  rw [dec02, emb_tb] at ew
  refine op_deed (r := (collectT false (tb 0 M) (C 0 0) (C 0 1)).1) (E := (collectT false (tb 0 M) (C 0 0) (C 0 1)).2) hS (by omega) (by omega) (show L ≤ B + 8 by omega) ?_ (Inv_collect s2 l2 l3 false) (InV_collect s2 l2 l3 false) (KE_collect (Okd3 l2) (by decide)) (Z1_collect (Okd3 l2)) (fun M1 h1 => ?_)
  · unfold F_X11_collect
    rw [l11_0_6 h]
    simp only [Option.bind_some]
    rw [ew]
    rfl
  · unfold F_X12_collect
    simp only [sI_th]
    obtain ⟨X', k1, k2, k3, k4, k5, k6⟩ := t_collects (fu := fu) (M := M1) h1 (up0_M (v := 0) s4) (show 0 ≤ 2140 by omega) s2 (up0_Rel l4) l2 l3 (up0_Lk s8) (by omega) false
    refine ⟨X', ?_, k2, k4, k5⟩
    show (F_X12_collects fu 0 (i3 0) (mmb (up (tX M) 0 0 0) M1)).bind _ = _
    rw [k1]
    rfl
theorem op_mount (hS : SimP C R a w n W V B M) (hB8 : B + 8 < 1000000) (hBB : B + 100 < fu) (hf : 1100 < fu) : Both C R a w n W V (B + 8) (F_X11_mount fu 0) (F_X12_mount fu 0) M := by
  obtain ⟨s1, s2, s3, s4, s5, s6, ⟨L, l1, l2, l3, l4, l5, l6⟩, s8, s9, s10, s11, s12, s13, s14, s15⟩ := id hS
  have h := s1.1
  have ew := e_mount (fu := fu) (M := M) (D := tb 0 M) (d := 0) (nb := C 0 0) (nw := C 0 1) h (by omega) ⟨l2.1, fun q2 => absurd q2 (by decide)⟩ (by omega)
  rw [emb_tb] at ew
  refine op_deed (r := mountT (tb 0 M) (C 0 0) (C 0 1) 14 15) (E := mountT (tb 0 M) (C 0 0) (C 0 1)) hS (by omega) (by omega) (show L ≤ B + 8 by omega) ?_ (Inv_mount s2 l2) (InV_mount s2) KE_mount (Z1_of ZE_mount) (fun M1 h1 => ?_)
  · unfold F_X11_mount
    rw [l11_0_6 h]
    simp only [Option.bind_some]
    rw [ew]
    rfl
  · unfold F_X12_mount
    simp only [sI_th]
    obtain ⟨X', k1, k2, k3, k4, k5, k6⟩ := t_mounts (fu := fu) (M := M1) h1 (up0_M (v := 0) s4) (show 0 ≤ 2140 by omega) s2 (up0_Rel l4) l2 (up0_Lk s8) hf (by omega) false
    refine ⟨X', ?_, k2, k4, k5⟩
    show (F_X12_mounts fu 0 (i3 0) (mmb (up (tX M) 0 0 0) M1)).bind _ = _
    rw [k1]
    rfl
end
