/-! ===== the judge: the relation behind its run ===== -/
/-- what the class's run leaves alone -/
def JFr (M N : xM) : Prop := Lay N ∧ tX N = tX M ∧ BsJ M N ∧ (∀ d j k, d < 5 → d ≠ 2 → j < 16 → tb d N j k = tb d M j k) ∧ (∀ c s k, (c ≠ 2 ∨ s ≠ 2 ∨ k ≠ 4) → gR N c s k = gR M c s k) ∧ ∀ c s k, gL N c s k = gL M c s k
/-- the class with its judge done -/
def JB (C : xC) (R : Nat → Int32) (a n : Nat) (W : Nat → Nat) (V : Nat → Nat → Int32) (D : xT) (M N : xM) : Prop :=
  JFr M N ∧ InE (startT C D) 0 0 ∧ gI N 5 0 5 = 1 ∧ PJd C R a n W V D N ∧ (tX M 0 26 = 0 ∨ tX M 0 26 = 1 ∧ Ran C R a n W V D (tX M) N)
section
variable {M M' M1 M3 N N' : xM} {D E S T X X' : xT} {C : xC} {R : Nat → Int32} {d fu n m i j o p q a c k l s t w K P L L' b b' B B' f e F g : Nat} {u v x y r z lo hi hh ff : Int32} {gg : Nat → Int32} {nt : Bool} {W : Nat → Nat} {V : Nat → Nat → Int32}
theorem nb_5 (q : ¬ bs c s) : c ≠ 5 := fun z => q (by rw [z]; exact bs_c (by omega))
theorem nb_46 (q : ¬ bs c s) : c ≠ 20 ∨ s ≠ 46 := by
  by_cases z : c = 20
  · exact Or.inr (fun w => q (by rw [z, w]; exact bs_20 (by omega)))
  · exact Or.inl z
theorem j_off (q : ¬ bs c s) : gI (jM M ff hh gg) c s k = gI M c s k := j_o ⟨nb_5 q, nb_46 q⟩
theorem c_run (hS : SimP C R a w n W V B M) (hf : 1100 < fu) : ∃ N D, F_X5_run fu 0 (some a) (some w) M = some N ∧ JB C R a n W V D M N := by
  obtain ⟨s1, s2, s3, s4, s5, s6, s7, s8, s9, s10, s11, s12, s13, s14, s15⟩ := id hS
  have h := s1.1
  have hn : n ≤ 24 := s9.2.1
  rcases s13 with ⟨p1, p2⟩ | ⟨p1, D, p2, p3, p4⟩
  · have er := e_run (fu := fu) (D := tb 2 M) h s2 hf s1.2.1 s1.2.2.1 s3 s9 p1
    rw [emb_tb] at er
    have hE := InE_runD (C := C) (D := tb 2 M)
    generalize runD (tb 2 M) = D at er hE
    refine ⟨_, D, er, ⟨Lay_sR4 h, ?_, fun c s k q1 q2 q3 => ?_, fun d j k q1 q2 q3 => ?_, fun c s k q => gR_sR4 (by omega), fun c s k => rfl⟩, hE, ?_, ⟨?_, ?_, fun k hk => ?_, fun j k hj => ?_, ?_, ?_⟩, Or.inl p2⟩
    · rw [tX_emb (by omega), tX_off (M := sR M 2 2 4 (some a)) (fun c s k q => j_off q)]
      rfl
    · rw [gI_not (d := 2) (q1.1 ⟨2, by omega⟩), j_o ⟨q2, q3⟩]
      rfl
    · rw [tb_oth q1 (by omega) q2 q3, tb_off (M := sR M 2 2 4 (some a)) (fun c s k q => j_off q) q1]
      rfl
    · rw [gI_not ow_5, j_5]
    · rw [gI_not ow_5, j_6]
      exact fw_cg n (fun i hi => cd_dc s2 hE (by omega) (s9.2.2 i hi).2.2.2.2.1)
    · rw [gI_not ow_5, j_1, hc_hf s2 hE hn n (Nat.le_refl _)]
    · rw [gI_not (ow_46 (by omega)), j_46 hk, wk_17 s2 hn hk]
    · exact tb_own (by omega) (by omega)
    · exact tb_own (by omega) (by omega)
    · exact tb_own (by omega) (by omega)
  · refine ⟨M, D, ?_, ⟨h, rfl, fun _ _ _ _ _ _ => rfl, fun _ _ _ _ _ _ => rfl, fun _ _ _ _ => rfl, fun _ _ _ => rfl⟩, p2, p1, p3, p4⟩
    unfold F_X5_run
    rw [p1, if_neg (by decide)]
/-- the judge may mark maps -/
theorem JB_23 (hj : JB C R a n W V D M N) (hE : ∀ j k, j ≠ 23 → E j k = tb 2 N j k) : JB C R a n W V D M (emb 2 E N) := by
  obtain ⟨⟨h1, h2, h3, h4, h5, h6⟩, h7, h8, ⟨q1, q2, q3, q4, q5, q6⟩, h9⟩ := hj
  refine ⟨⟨h1, (tX_emb (by omega)).trans h2, fun c s k q1 q2 q3 => (gI_not (d := 2) (q1.1 ⟨2, by omega⟩)).trans (h3 c s k q1 q2 q3), fun d j k q1 q2 q3 => (tb_oth q1 (by omega) q2 q3).trans (h4 d j k q1 q2 q3), fun c s k q => h5 c s k q, fun c s k => h6 c s k⟩, h7, (gI_not ow_5).trans h8, ⟨(gI_not ow_5).trans q1, (gI_not ow_5).trans q2, fun k hk => (gI_not (ow_46 (by omega))).trans (q3 k hk), fun j k hj => ?_, ?_, ?_⟩, ?_⟩
  · rw [tb_own (by omega) (by omega), hE j k (by omega)]; exact q4 j k hj
  · rw [tb_own (by omega) (by omega), hE 15 3 (by omega)]; exact q5
  · rw [tb_own (by omega) (by omega), hE 14 3 (by omega)]; exact q6
  · rcases h9 with h9 | ⟨h9, r1, r2, r3⟩
    · exact Or.inl h9
    · exact Or.inr ⟨h9, r1, r2, r3⟩
/-- the notes of the class's judge -/
theorem JB_E (hB : CB C) (hn : n ≤ 24) (hj : JB C R a n W V D M N) : ∃ K, InE (tb 2 N) (wkP C R a W V D n) K ∧ InE (wkN C R a W V D n) (wkP C R a W V D n) K := by
  obtain ⟨hPl, K, hK⟩ := wkP_le (R := R) (a := a) (W := W) (V := V) hB hn hj.2.1
  refine ⟨K, ?_, hK⟩
  have q4 := hj.2.2.2.1.2.2.2.1
  obtain ⟨a1, a2, a3, a4, a5, a6, a7, a8⟩ := hK
  refine ⟨a1, a2, (q4 24 0 (by omega)).trans a3, (q4 24 1 (by omega)).trans a4, fun p hp => ?_, fun m hm => ?_, fun m o hm ho hh => ?_, fun m hm => ?_⟩
  · rw [q4 22 p (by omega)]; exact a5 p hp
  · rw [q4 21 m (by omega), a6 m hm]
    congr 1
    exact cnt_congr (fun p hp => by rw [q4 22 p (by omega)])
  · refine a7 m o hm ho (fun a ha => ?_)
    have := hh a ha
    rw [q4 20 _ (by omega), q4 20 _ (by omega)] at this
    exact this
  · obtain ⟨p, p1, p2⟩ := a8 m hm
    exact ⟨p, p1, by rw [q4 22 p (by omega)]; exact p2⟩
theorem gI_1 (h : M'.1 = M.1) : gI M' c s k = gI M c s k := by unfold gI; rw [h]
/-- the relation behind a call of the judge's -/
theorem Sim_jd (hS : SimP C R a w n W V B M) (hj : JB C R a n W V D M N) (hl : Lay M') (h1 : M'.1 = N.1) (hr : ∀ c s k, gR M' c s k = gR N c s k) (hL : ∀ s k, s < 5 → gL M' 21 s k = gL N 21 s k) (hx : FmR (tX M) X') (hLk : X' 0 22 = i3 0 → Lk (tb 0 M) X')
    (hR : X' 0 26 = 0 ∨ X' 0 26 = 1 ∧ Ran C R a n W V D X' M') : SimP C R a w n W V B (mmb X' M') := by
  obtain ⟨⟨g1, g2, g3, g4, g5, g6⟩, g7, g8, ⟨q1, q2, q3, q4, q5, q6⟩, g9⟩ := hj
  have hX : ∀ j k, mrow j → tX (mmb X' M') j k = X' j k := fun j k hj => tX_mmb hj
  have hG : ∀ c s k, mow c s = none → gI (mmb X' M') c s k = gI N c s k := fun c s k q => (mI_not q).trans (gI_1 h1)
  have hT : ∀ d j k, d < 5 → tb d (mmb X' M') j k = tb d N j k := fun d j k hd => by
    rw [tb_mmb hd]; unfold tb; rw [h1]
  refine Sim_cl hS ⟨hl, fun c s k p1 p2 p3 => (hG c s k p1.2).trans (g3 c s k p1 p2 p3), fun j k p1 p2 p3 p4 => ?_, ?_, fun d j k p1 p2 p3 => ?_, fun c s k p => ?_, fun s k p => ?_⟩ ⟨fun j k p1 p2 => ?_, fun k p => ?_⟩ (fun p => ?_) ?_
  · rw [hT 0 j k (by omega)]; exact g4 0 j k (by omega) (by omega) p1
  · obtain ⟨L, l1, l2, l3, l4, l5, l6⟩ := hS.2.2.2.2.2.2.1
    exact InV_lo (fun j k p => by rw [hT 0 j k (by omega)]; exact g4 0 j k (by omega) (by omega) p) l3
  · rw [hT d j k p2]; exact g4 d j k p2 (by omega) p3
  · exact (hr c s k).trans (g5 c s k (by omega))
  · exact (hL s k p).trans (g6 21 s k)
  · rw [hX j k (mrow_of (by omega))]; exact hx.1 j k p1 p2
  · rw [hX 95 k (mrow_of (by omega))]; exact hx.2 k p
  · rw [hX 0 22 (mrow_of (by omega))] at p
    have := hLk p
    unfold Lk at this ⊢
    rw [hX 0 20 (mrow_of (by omega)), hX 0 21 (mrow_of (by omega))]
    exact this
  · refine Or.inr ⟨(hG 5 0 5 (bs_c (by omega)).2).trans g8, D, g7, ⟨(hG 5 0 6 (bs_c (by omega)).2).trans q1, (hG 5 0 1 (bs_c (by omega)).2).trans q2, fun k hk => (hG 20 46 k (bs_20 (by omega)).2).trans (q3 k hk), fun j k hj => (hT 2 j k (by omega)).trans (q4 j k hj), (hT 2 15 3 (by omega)).trans q5, (hT 2 14 3 (by omega)).trans q6⟩, ?_⟩
    rw [hX 0 26 (mrow_of (by omega))]
    rcases hR with hR | ⟨hR, r1, r2, r3⟩
    · exact Or.inl hR
    · exact Or.inr ⟨hR, fun j hj => (hX 97 j (mrow_of (by omega))).trans (r1 j hj), r2, r3⟩
/-- a call that runs both judges, and then reads -/
theorem op_jd {f g : xM → Option (Int32 × xM)} (hS : SimP C R a w n W V B M) (hf : 1100 < fu)
    (hc : ∀ N D, F_X5_run fu 0 (some a) (some w) M = some N → JB C R a n W V D M N → ∃ r E, f M = some (r, emb 2 E N) ∧ (∀ j k, j ≠ 23 → E j k = tb 2 N j k) ∧
      ∀ N1 X' M', Lay N1 → Lay M' → InE (startT C D) 0 0 → N1 = mmb (tX M) N1 → F_X12_runs fu 0 (mmb (up (tX M) 0 0 0) N1) = some (mmb X' M') → Ran C R a n W V D X' M' → WkAs n W V X' → MCfg C X' → (∀ k, k < 1605 → X' 95 k = tX M 95 k) → ∃ X'', g N1 = some (r, mmb X'' M') ∧ ∀ j k, j ≠ 98 → X'' j k = X' j k) :
    Both C R a w n W V B f g M := by
  obtain ⟨N, D, e1, e2⟩ := c_run (fu := fu) hS hf
  obtain ⟨r, E, f1, f2, f3⟩ := hc N D e1 e2
  have e3 := JB_23 e2 f2
  obtain ⟨s1, s2, s3, s4, s5, s6, s7, s8, s9, s10, s11, s12, s13, s14, s15⟩ := id hS
  have hm : emb 2 E N = mmb (tX M) (emb 2 E N) := by
    rw [← e3.1.2.1]; exact (mmb_tX _).symm
  obtain ⟨X', M', k1, k2, k3, k4, k5, k6, k7, k8, ⟨k9, k10, k11⟩, k12, k13, k14⟩ := t_runs3 (fu := fu) (M := emb 2 E N) (X := up (tX M) 0 0 0) (a := a) (R := R) (D := D) e3.1.1 s2 hf (Wk_fm s10 (fun k => up_ne (by omega))) (up0_M s4) (RuleAs_fm s5 (up_ne (by omega)) (fun k => up_ne (by omega))) e3.2.1 (by
    rw [up_ne (by omega)]
    rcases e3.2.2.2.2 with q | ⟨q, r1, r2, r3⟩
    · exact Or.inl q
    · exact Or.inr ⟨q, fun j hj => (up_ne (by omega)).trans (r1 j hj), r2, r3⟩)
  have h95 : ∀ k, k < 1605 → X' 95 k = tX M 95 k := fun k hk => (k10 k hk).trans (up_ne (by omega))
  obtain ⟨X'', g1, g2⟩ := f3 (emb 2 E N) X' M' e3.1.1 k3 e3.2.1 hm k1 k2 k7 k5 h95
  refine ⟨r, _, _, f1, g1, Sim_jd hS e3 k3 k12 k13 (fun s k q => k14 21 s k (by omega)) ⟨fun j k q1 q2 => ?_, fun k hk => ?_⟩ (fun q => ?_) (Or.inr ⟨(g2 0 26 (by omega)).trans k8, fun j hj => (g2 97 j (by omega)).trans (k2.1 j hj), k2.2.1, k2.2.2⟩)⟩
  · rw [g2 j k (by omega), k9 j k (by omega) (by omega) (by omega) (by omega) (by omega) (by omega), up_ne (by omega), up_ne (by omega)]
  · rw [g2 95 k (by omega)]; exact h95 k hk
  · rw [g2 0 22 (by omega)] at q
    obtain ⟨z1, z2, z3⟩ := k11 0 (by omega) q
    rw [up_ne (by omega)] at z1 z2 z3
    have := s8 z1
    unfold Lk at this ⊢
    rw [g2 0 20 (by omega), g2 0 21 (by omega), z2, z3]
    exact this
end
