/-! ===== a WORK told: the call ===== -/
section
variable {M M' M1 N : xM} {X Y Y' Y1 : xT} {f : Nat → Nat} {fu l t T n i j k d s x a b w F e m g n' w' B : Nat} {c ls : List Nat} {q : Nat × Nat} {u v y0 : Int32} {nm : Nat → List Nat} {D : Nat → Nat → Nat} {C : xC} {R : Nat → Int32} {W W' : Nat → Nat} {V V' : Nat → Nat → Int32} {o : Option Nat}
theorem taken_e : F_X10_taken fu 0 u M = some (if u = 0 then gI M 10 0 9 else 0, sI M 10 0 1 0) := by
  unfold F_X10_taken
  by_cases c : u = 0
  · rw [if_pos c, if_pos c]
    show some (gI (sI M 10 0 1 0) 10 0 9, _) = _
    rw [gI_sI, if_neg (by omega)]
  · rw [if_neg c, if_neg c]
/-- the world behind a WORK told -/
def wkW (w : Nat) (M : xM) : xM := sI (sI (sR (sR M 11 0 3 (some (1 - w))) 11 0 4 (some w)) 5 0 5 0) 10 0 1 0
theorem wkW_I {c s k : Nat} : gI (wkW w M) c s k = if c = 10 ∧ s = 0 ∧ k = 1 then 0 else if c = 5 ∧ s = 0 ∧ k = 5 then 0 else gI M c s k := rfl
theorem wkW_R {c s k : Nat} : gR (wkW w M) c s k = if c = 11 ∧ s = 0 ∧ k = 4 then some w else if c = 11 ∧ s = 0 ∧ k = 3 then some (1 - w) else gR M c s k := rfl
theorem wkW_L {c s k : Nat} : gL (wkW w M) c s k = gL M c s k := rfl
theorem wkW_lay (h : Lay M) : Lay (wkW w M) := Lay_sI (Lay_sI (Lay_sR (Lay_sR h (by decide)) (by decide)))
theorem op_work (hS : SimP C R a w n W V B M) (hf : 1100 < fu) : ∃ r M1 M2 w' n' W' V', F_X11_work fu 0 M = some (r, M1) ∧ F_X12_work fu 0 M1 = some (r, M2) ∧ SimP C R a w' n' W' V' B M2 := by
  obtain ⟨s1, s2, s3, s4, s5, s6, s7, s8, s9, s10, s11, s12, s13, s14, s15⟩ := id hS
  have h := s1.1
  obtain ⟨b1, b2, b3, b4, b5, b6, b7⟩ := s1
  obtain ⟨f, t, hT, h02, ht, h87⟩ := tape_f s14 h
  obtain ⟨nm, hn1, hn2⟩ := s6
  have hF5 := s2.2.2.2.1
  have hN : NmC a (C 0 3) nm M := ⟨hF5, s3.2.2.2.2.2.2.2.2.1, fun k hk => ⟨(hn1 k hk).1, (hn1 k hk).2.1, (hn1 k hk).2.2.1⟩⟩
  have hw1 : 1 - w < 2 := by omega
  obtain ⟨M', r1, r2, r3, r4⟩ := e_workRead (fu := fu) (w := 1 - w) b2 hw1 hf hT hN
  have r1' : F_X9_read fu (1 - w) (some 0) (some a) M = some (bz (decide ((wrA f t (C 0 3) nm).1 = 0)), M') := r1
  have r2' : LnC f t ((wrA f t (C 0 3) nm).1, (wrA f t (C 0 3) nm).2.1) M' := r2
  have r4' : (wrA f t (C 0 3) nm).1 = 0 → (wrA f t (C 0 3) nm).2.2.1 ≤ 24 ∧ WkR (1 - w) (wrA f t (C 0 3) nm).2.2.1 (wrA f t (C 0 3) nm).2.2.2 M' := r4
  have hok : DOk (wrA f t (C 0 3) nm).2.2.1 (wrA f t (C 0 3) nm).2.2.2 := wrP_ok (f := f) (t := t) (F := C 0 3) (nm := nm) 25 0 (fun _ _ => 0) 0 (fun j hj => absurd hj (Nat.not_lt_zero _))
  have hI : ∀ c s k, ¬ bs c s → gI M' c s k = gI M c s k := fun c s k hb => r3.2.2.2 c s k (Or.inl fun z => hb (by rw [z]; exact bs_c (by omega))) (Or.inl fun z => hb (by rw [z]; exact bs_c (by omega))) (by
    by_cases c20 : c = 20
    · subst c20
      by_cases z : s < 10 + 4 * (1 - w) ∨ 14 + 4 * (1 - w) ≤ s
      · omega
      · exact absurd (bs_20 (by omega)) hb
    · omega)
  -- the world behind the class's part
  have hcls : ∃ M1, F_X11_work fu 0 M = some (if (wrA f t (C 0 3) nm).1 = 0 then 0 else i3 (wrA f t (C 0 3) nm).1, M1) ∧ M1 = if (wrA f t (C 0 3) nm).1 = 0 then wkW w M' else sI M' 10 0 1 0 := by
    refine ⟨_, ?_, rfl⟩
    unfold F_X11_work
    rw [b7, l11_0_0 h, b4]
    simp only [Option.bind_some]
    rw [r1']
    simp only [Option.bind_some]
    by_cases p0 : (wrA f t (C 0 3) nm).1 = 0
    · rw [if_pos p0, if_pos p0, decide_eq_true p0, if_neg (show ¬ bz true = 0 from by decide), r3.1, r3.1, b6, b7]
      have hLay : Lay (sI (sR (sR M' 11 0 3 (some (1 - w))) 11 0 4 (some w)) 5 0 5 0) := Lay_sI (Lay_sR (Lay_sR r2.1.1 (by decide)) (by decide))
      have e9 : gR (sR (sR M' 11 0 3 (some (1 - w))) 11 0 4 (some w)) 11 0 9 = some 0 := l11_0_9 hLay
      have e0 : gR (sI (sR (sR M' 11 0 3 (some (1 - w))) 11 0 4 (some w)) 5 0 5 0) 11 0 0 = some 0 := l11_0_0 hLay
      rw [e9]
      simp only [Option.bind_some]
      unfold F_X5_forget
      rw [xb_f, gd_t]
      simp only [Option.bind_some]
      rw [e0]
      simp only [Option.bind_some]
      rw [taken_e, if_neg (show ¬ bz true = 0 from by decide)]
      rfl
    · rw [if_neg p0, if_neg p0, decide_eq_false p0, if_pos (show bz false = 0 from rfl), l11_0_0 r2.1.1]
      simp only [Option.bind_some]
      rw [taken_e, if_pos (show bz false = 0 from rfl), r2'.2.2 p0]
      rfl
  obtain ⟨M1, g1, g2⟩ := hcls
  have hLay1 : Lay M1 := by
    rw [g2]
    by_cases p0 : (wrA f t (C 0 3) nm).1 = 0
    · rw [if_pos p0]; exact wkW_lay r2.1.1
    · rw [if_neg p0]; exact r2.1.1
  have hI1 : ∀ c s k, ¬ bs c s → gI M1 c s k = gI M c s k := fun c s k hb => by
    have n10 : c ≠ 10 := fun z => hb (by rw [z]; exact bs_c (by omega))
    have n5 : c ≠ 5 := fun z => hb (by rw [z]; exact bs_c (by omega))
    rw [g2]
    by_cases p0 : (wrA f t (C 0 3) nm).1 = 0
    · rw [if_pos p0, wkW_I, if_neg (by omega), if_neg (by omega)]; exact hI c s k hb
    · rw [if_neg p0, gI_sI, if_neg (by omega)]; exact hI c s k hb
  have hL1 : ∀ s k, gL M1 21 s k = gL M 21 s k := fun s k => by
    rw [g2]
    by_cases p0 : (wrA f t (C 0 3) nm).1 = 0
    · rw [if_pos p0, wkW_L]; exact r3.2.2.1 _ _ _ (by omega)
    · rw [if_neg p0]; exact r3.2.2.1 _ _ _ (by omega)
  have hX1 : tX M1 = tX M := tX_off hI1
  have hW1 : PWords M1 := fun k hk => (hL1 3 k).trans (s15 k hk)
  have hmm : M1 = mmb (tX M) M1 := by rw [← hX1]; exact (mmb_tX M1).symm
  obtain ⟨Y', N', t1, t2, t3, t4⟩ := t_work (fu := fu) (f := f) (X := tX M) (N := M1) (C := C) (F := C 0 3) (nm := nm) hf hLay1 hW1 h02 ht h87 s4 rfl ⟨hF5, by omega, fun k hk => ⟨(hn1 k hk).1, (hn1 k hk).2.1, by rw [Nat.zero_add]; exact (hL1 4 k).trans (hn1 k hk).2.2.2⟩, hn2⟩
  have hN1 : ∀ c s k, gI N' c s k = gI M1 c s k := fun c s k => congrFun (congrFun (congrFun t1.2.1 c) s) k
  have hoff : ∀ c s k, mow c s = none → gI (mmb Y' N') c s k = gI M1 c s k := fun c s k hm => (mI_not hm).trans (hN1 c s k)
  have htb : ∀ d, d < 5 → tb d (mmb Y' N') = tb d M := fun d hd => by
    rw [tb_mmb hd, tb_off (M := M) (M' := N') (fun c s k hb => (hN1 c s k).trans (hI1 c s k hb)) hd]
  have hR1 : ∀ c s k, gR (mmb Y' N') c s k = gR M1 c s k := fun c s k => t1.2.2.1 c s k
  by_cases p0 : (wrA f t (C 0 3) nm).1 = 0
  · rw [if_pos p0] at g1 g2
    obtain ⟨v1, v2, v3, v4, v5, v6⟩ := t4 p0
    obtain ⟨z1, z2⟩ := r4' p0
    have hgI : ∀ c s k, c ≠ 10 → c ≠ 5 → gI M1 c s k = gI M' c s k := fun c s k h1 h2 => by rw [g2, wkW_I, if_neg (by omega), if_neg (by omega)]
    generalize wrA f t (C 0 3) nm = p at *
    have hRW : RuleAs C R (tX (mmb Y' N')) := RuleAs_fm s5 ((tX_mmb (mrow_of (by omega))).trans (v2 90 4 (by omega) (by omega) (by omega) (by omega))) (fun k => (tX_mmb (mrow_of (by omega))).trans (v2 91 k (by omega) (by omega) (by omega) (by omega)))
    refine ⟨0, M1, mmb Y' N', 1 - w, p.2.2.1, fun j => p.2.2.2 j 0, fun j e => i3 (p.2.2.2 j (e + 1)), g1, ?_, Sim_wk hS hw1 t1.1 ?_ ?_ (fun c s k hk => ?_) (fun s k hk => ?_) (fun c s k hk => ?_) htb (fun j k hj => ?_) hRW ⟨?_, v4, fun i hi => ⟨?_, ?_, ?_, ?_, (hok i hi).1, ⟨_, (hok i hi).2, rfl⟩⟩⟩ ⟨?_, v4, fun i hi => ⟨?_, (hok i hi).1, ?_, ?_, ?_, ⟨_, (hok i hi).2, rfl⟩⟩⟩ ?_ ?_ ?_⟩
    · conv => lhs; rw [hmm]
      exact v1
    · rw [hR1, g2, wkW_R, if_neg (by omega), if_pos ⟨rfl, rfl, rfl⟩]
    · rw [hR1, g2, wkW_R, if_pos ⟨rfl, rfl, rfl⟩]; congr 1; omega
    · rw [hR1, g2, wkW_R, if_neg (by omega), if_neg (by omega)]; exact r3.1 c s k
    · rw [gL_mmb, t1.2.2.2.2 _ _ _ (by omega)]; exact hL1 s k
    · unfold keepW at hk
      have hmo : mow c s = none := by
        rcases hk with q | q | q | q | q
        · exact (bs_c (by omega)).2
        · exact (bs_c (by omega)).2
        · exact (bs_c (by omega)).2
        · rw [q.1]; exact (bs_20 (by omega)).2
        · rw [q.1]; exact (bs_22 (by omega)).2
      rw [hoff c s k hmo, hgI c s k (by omega) (by omega)]
      exact r3.2.2.2 c s k (by omega) (by omega) (by omega)
    · rw [tX_mmb (mrow_of (by omega))]
      exact v2 j k (by omega) (by omega) (by omega) (by omega)
    · rw [hoff _ _ _ (bs_c (by omega)).2, hgI _ _ _ (by omega) (by omega)]; exact z2.1
    · rw [hoff _ _ _ (bs_20 (by omega)).2, hgI _ _ _ (by omega) (by omega)]; exact z2.2 i hi 0 (by omega)
    · rw [hoff _ _ _ (bs_20 (by omega)).2, hgI _ _ _ (by omega) (by omega)]; exact z2.2 i hi 1 (by omega)
    · rw [hoff _ _ _ (bs_20 (by omega)).2, hgI _ _ _ (by omega) (by omega)]; exact z2.2 i hi 2 (by omega)
    · rw [hoff _ _ _ (bs_20 (by omega)).2, hgI _ _ _ (by omega) (by omega)]; exact z2.2 i hi 3 (by omega)
    · rw [tX_mmb (mrow_of (by omega))]; exact v5
    · rw [tX_mmb (mrow_of (by omega))]; exact v6 i hi 0 (by omega)
    · rw [tX_mmb (mrow_of (by omega))]; exact v6 i hi 1 (by omega)
    · rw [tX_mmb (mrow_of (by omega))]; exact v6 i hi 2 (by omega)
    · rw [tX_mmb (mrow_of (by omega))]; exact v6 i hi 3 (by omega)
    · rw [hoff _ _ _ (bs_c (by omega)).2, g2, wkW_I, if_neg (by omega), if_pos ⟨rfl, rfl, rfl⟩]
    · rw [tX_mmb (mrow_of (by omega))]; exact v3
    · refine ⟨0, by omega, ?_, ?_, fun i hi => absurd hi (Nat.not_lt_zero _)⟩
      · rw [hoff _ _ _ (bs_c (by omega)).2, g2, wkW_I, if_pos ⟨rfl, rfl, rfl⟩]; rfl
      · rw [tX_mmb (mrow_of (by omega))]; exact t2
  · rw [if_neg p0] at g1 g2
    obtain ⟨v1, v2⟩ := t3 p0
    have hgI : ∀ c s k, c ≠ 10 → gI M1 c s k = gI M' c s k := fun c s k h1 => by rw [g2, gI_sI, if_neg (by omega)]
    refine ⟨i3 (wrA f t (C 0 3) nm).1, M1, mmb Y' N', w, n, W, V, g1, ?_, Sim_tp hS ⟨t1.1, fun c s k => ?_, fun s k hk => ?_, fun c s k hk => ?_, fun d j k hd hj => by rw [htb d hd], fun j k hj => ?_⟩ ?_ ?_⟩
    · conv => lhs; rw [hmm]
      exact v1
    · rw [hR1, g2]; exact r3.1 c s k
    · rw [gL_mmb, t1.2.2.2.2 _ _ _ (by omega)]; exact hL1 s k
    · unfold keepC at hk
      have hmo : mow c s = none := by
        rcases hk with q | q | q | q | q | q | q
        · exact (bs_c (by omega)).2
        · exact (bs_c (by omega)).2
        · exact (bs_c (by omega)).2
        · exact (bs_c (by omega)).2
        · exact (bs_c (by omega)).2
        · rw [q.1]; exact (bs_20 (by omega)).2
        · rw [q.1]; exact (bs_22 (by omega)).2
      rw [hoff c s k hmo, hgI c s k (by omega)]
      exact r3.2.2.2 c s k (by omega) (by omega) (by omega)
    · rw [tX_mmb (mrow_of (by omega))]
      exact v2 j k (by omega) (by omega) (by omega) (by omega)
    · exact RuleAs_fm s5 ((tX_mmb (mrow_of (by omega))).trans (v2 90 4 (by omega) (by omega) (by omega) (by omega))) (fun k => (tX_mmb (mrow_of (by omega))).trans (v2 91 k (by omega) (by omega) (by omega) (by omega)))
    · refine ⟨0, by omega, ?_, ?_, fun i hi => absurd hi (Nat.not_lt_zero _)⟩
      · rw [hoff _ _ _ (bs_c (by omega)).2, g2, gI_sI, if_pos ⟨rfl, rfl, rfl⟩]; rfl
      · rw [tX_mmb (mrow_of (by omega))]; exact t2
end
