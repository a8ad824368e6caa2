/-! ===== a PLAN told: the call ===== -/
section
variable {M M' M1 N N' N1 N2 : xM} {X X' Y Y' Y1 Y2 : xT} {f : Nat → Nat} {fu l t T n i j k d s x a b w F e m g lo hi p B : Nat} {c ls : List Nat} {q : Nat × Nat} {u v y0 : Int32} {nm : Nat → List Nat} {S S' : plS} {y : Int64} {C : xC} {R : Nat → Int32} {D : xT} {W : Nat → Nat} {V : Nat → Nat → Int32}
theorem RuleAs_1100 (h : RuleAs C R X) (h0 : X' 90 4 = X 90 4) (h1 : ∀ k, k < 1100 → X' 91 k = X 91 k) : RuleAs C R X' := by
  rcases h with ⟨q, q2⟩ | ⟨q1, p, q2, q3, q4, q5, q6, q7⟩
  · exact Or.inl ⟨q, by rw [h0]; exact q2⟩
  · exact Or.inr ⟨q1, p, q2, h0.trans q3, fun i hi => by rw [h1 _ (by omega)]; exact q4 i hi, (h1 _ (by omega)).trans q5, q6, q7⟩
/-- the world of the reference behind a plan stored -/
theorem bgX_at : bgX X j k = if j = 1 ∧ k = 1 then 0 else if j = 1 ∧ k = 0 then 0 else if j = 0 ∧ k = 26 then 0 else if j = 92 ∧ k = 0 then 0 else if j = 95 ∧ k = 502 then 0 else stX X 0 j k := by
  unfold bgX
  rw [up_at, up_at, up_at, up_at, up_at]
theorem bgX_o (h : j ≠ 1) (h0 : j ≠ 0 ∨ k ≠ 26 ∧ k ≠ 22) (h92 : j ≠ 92) (h95 : j ≠ 95) : bgX X j k = X j k := by
  rw [bgX_at, if_neg (by omega), if_neg (by omega), if_neg (by omega), if_neg (by omega), if_neg (by omega)]
  unfold stX
  rw [if_neg (by omega), if_neg (by omega), if_neg (by omega), if_neg (by omega)]
theorem cc_90 (h : k < 20) : c2X (c1X Y 20) m 90 k = Y 90 (20 + k) := by
  unfold c2X
  rw [if_neg (by omega)]
  unfold c1X
  rw [if_pos ⟨rfl, h⟩]
theorem cc_91 (h : k < m) : c2X (c1X Y 20) m 91 k = Y 91 (1100 + k) := by
  unfold c2X
  rw [if_pos ⟨rfl, h⟩]
  unfold c1X
  rw [if_neg (by omega)]
theorem cc_o (h : j ≠ 90 ∧ j ≠ 91) : c2X (c1X Y 20) m j k = Y j k := by
  unfold c2X
  rw [if_neg (by omega)]
  unfold c1X
  rw [if_neg (by omega)]
/-- behind a plan stored -/
theorem Sim_st (hS : SimP C R a w n W V B M) (hP : PlC (1 - a) S M') (hO : PlOk S) (hF : PnF (1 - a) M M') (hM1 : M1 = anW S.1 (1 - a) w (sR (sR M' 11 0 1 (some (1 - a))) 11 0 2 (some a))) (hN1 : LnF M1 N1) (hN2 : PnN N1 N2) (hX : PlX S Y2 N2) (h02 : Y2 0 2 = 0) (h12 : m ≤ 1001) (hm : S.2.2.1 / 8 % 2 = 1 → m = S.2.2.2.length + 1) :
    SimP S.1 (clR S.2.2.2) (1 - a) w 0 W V B (mmb (bgX (c2X (c1X Y2 20) m)) (nmN N2 5)) := by
  obtain ⟨s1, s2, s3, s4, s5, s6, s7, s8, s9, s10, s11, s12, s13, s14, s15⟩ := hS
  obtain ⟨b1, b2, b3, b4, b5, b6, b7⟩ := s1
  obtain ⟨o1, o2, o3, o4, o5, o6, o7, o8, o9, o10, o11⟩ := id hO
  obtain ⟨x1, x2, x3, x4, x5⟩ := hX
  obtain ⟨p1, p2, p3, p4⟩ := id hP
  have ha1 : 1 - a < 2 := by omega
  have hLM' : Lay M' := ⟨fun c s k v e => (hF.1 c s k).trans (b1.1 c s k v e), fun c s n e => (hF.2.1 c s).trans (b1.2 c s n e)⟩
  have hLM1 : Lay M1 := by rw [hM1]; exact anW_lay (Lay_sR (Lay_sR hLM' (by decide)) (by decide))
  -- what lies where
  have hI : ∀ c s k, gI (nmN N2 5) c s k = gI M1 c s k := fun c s k => congrFun (congrFun (congrFun (((nmN_1 5).1.trans hN2.1).trans hN1.2.1) c) s) k
  have hR : ∀ c s k, gR (nmN N2 5) c s k = gR M1 c s k := fun c s k => (((nmN_1 5).2.1 c s k).trans (hN2.2.1 c s k)).trans (hN1.2.2.1 c s k)
  have hN : ∀ c s, gN (nmN N2 5) c s = gN M1 c s := fun c s => (((nmN_1 5).2.2 c s).trans (hN2.2.2.1 c s)).trans (hN1.2.2.2.1 c s)
  have hLay : Lay (nmN N2 5) := ⟨fun c s k v e => (hR c s k).trans (hLM1.1 c s k v e), fun c s n e => (hN c s).trans (hLM1.2 c s n e)⟩
  have hL : ∀ c s k, (c ≠ 21 ∨ s ≠ 2 ∧ s ≠ 4) → gL (nmN N2 5) c s k = gL M1 c s k := fun c s k q => by
    rw [nmN_L 5 (Nat.le_refl _), if_neg (by omega), hN2.2.2.2 c s k (by omega), hN1.2.2.2.2 c s k (by omega)]
  have h4L : ∀ k, k < 5 → gL (nmN N2 5) 21 4 k = gL N2 21 4 (5 + k) := fun k hk => by
    rw [nmN_L 5 (Nat.le_refl _), if_pos ⟨rfl, rfl, hk⟩]
  have hLM : ∀ s k, s ≠ 1 - a → gL M1 21 s k = gL M 21 s k := fun s k q => by
    rw [hM1, anW_L]; exact hF.2.2.1 21 s k (by omega) (by omega)
  have hbs : ∀ c s k, bs c s → (c ≠ 10 ∧ c ≠ 5 ∧ c ≠ 1 ∧ c ≠ 9 ∧ (c ≠ 22 ∨ s ≠ 19)) → gI (mmb (bgX (c2X (c1X Y2 20) m)) (nmN N2 5)) c s k = gI M' c s k := fun c s k q1 q2 => by
    rw [mI_not q1.2, hI, hM1, anW_o q1 q2]
    rfl
  have hgI : ∀ c s k, mow c s = none → gI (mmb (bgX (c2X (c1X Y2 20) m)) (nmN N2 5)) c s k = gI M1 c s k := fun c s k q => (mI_not q).trans (hI c s k)
  have hX' : ∀ j k, mrow j → tX (mmb (bgX (c2X (c1X Y2 20) m)) (nmN N2 5)) j k = bgX (c2X (c1X Y2 20) m) j k := fun j k q => tX_mmb q
  have h90 : ∀ k, k < 20 → tX (mmb (bgX (c2X (c1X Y2 20) m)) (nmN N2 5)) 90 k = Y2 90 (20 + k) := fun k hk => by
    rw [hX' _ _ (mrow_of (by omega)), bgX_o (by omega) (by omega) (by omega) (by omega), cc_90 hk]
  have h91 : ∀ k, k < m → tX (mmb (bgX (c2X (c1X Y2 20) m)) (nmN N2 5)) 91 k = Y2 91 (1100 + k) := fun k hk => by
    rw [hX' _ _ (mrow_of (by omega)), bgX_o (by omega) (by omega) (by omega) (by omega), cc_91 hk]
  have hCB : CB S.1 := ⟨o1, o2, o3, o4, by rw [o5]; exact o6, fun f hf => ⟨(o8 f hf).1, (o8 f hf).2.1, (o8 f hf).2.2.1⟩⟩
  have htb : ∀ j k, j < 29 → tb 0 (mmb (bgX (c2X (c1X Y2 20) m)) (nmN N2 5)) j k = startT S.1 (tb 0 (sR (sR M' 11 0 1 (some (1 - a))) 11 0 2 (some a))) j k := fun j k hj => by
    rw [tb_mmb (by omega)]
    have e : tb 0 (nmN N2 5) j k = tb 0 M1 j k := by
      show (if j < 29 then gI (nmN N2 5) (atC j) (atS 0 j) k else 0) = if j < 29 then gI M1 (atC j) (atS 0 j) k else 0
      rw [hI]
    rw [e, hM1, anW_tb hj]
  refine ⟨⟨hLay, ha1, b3, ?_, ?_, ?_, ?_⟩, hCB, ?_, ?_, ?_, ?_, ?_, fun q => ?_, ⟨?_, by omega, fun i hi => absurd hi (Nat.not_lt_zero _)⟩, ⟨?_, by omega, fun i hi => absurd hi (Nat.not_lt_zero _)⟩, ?_, fun k hk => ?_, Or.inl ⟨?_, ?_⟩, ⟨0, by omega, ?_, ?_, fun i hi => absurd hi (Nat.not_lt_zero _)⟩, fun k hk => ?_⟩
  · rw [gR_mmb, hR, hM1, anW_R, if_neg (by omega), gR_sR, if_neg (by omega), gR_sR, if_pos ⟨rfl, rfl, rfl⟩]
  · rw [gR_mmb, hR, hM1, anW_R, if_neg (by omega), gR_sR, if_pos ⟨rfl, rfl, rfl⟩, show 1 - (1 - a) = a by omega]
  · rw [gR_mmb, hR, hM1, anW_R, if_neg (by omega), gR_sR, if_neg (by omega), gR_sR, if_neg (by omega)]
    exact (hF.1 _ _ _).trans b6
  · rw [gR_mmb, hR, hM1, anW_R, if_neg (by omega), gR_sR, if_neg (by omega), gR_sR, if_neg (by omega)]
    exact (hF.1 _ _ _).trans b7
  · obtain ⟨c1, c2, c3, c4, c5, c6, c7, c8, c9, c10, c11, c12⟩ := Cfg_pl hP hO
    refine ⟨c1, c2, c3, c4, c5, (hbs _ _ _ (bs_c (by omega)) (by omega)).trans c6, (hbs _ _ _ (bs_c (by omega)) (by omega)).trans c7, (hbs _ _ _ (bs_c (by omega)) (by omega)).trans c8, (hbs _ _ _ (bs_c (by omega)) (by omega)).trans c9, (hbs _ _ _ (bs_c (by omega)) (by omega)).trans c10, fun f hf => ?_, fun i hi => (hbs _ _ _ (bs_20 (by omega)) (by omega)).trans (c12 i hi)⟩
    rw [hbs _ _ _ (bs_20 (by omega)) (by omega), hbs _ _ _ (bs_20 (by omega)) (by omega)]
    exact c11 f hf
  · refine ⟨(h90 0 (by omega)).trans (x1 0 (by omega)), (h90 1 (by omega)).trans (x1 1 (by omega)), (h90 2 (by omega)).trans (x1 2 (by omega)), (h90 3 (by omega)).trans (x1 3 (by omega)), fun f hf => ?_⟩
    rw [h90 _ (by omega), h90 _ (by omega), show 20 + (5 + 2 * f) = 25 + 2 * f by omega, show 20 + (5 + 2 * f + 1) = 25 + 2 * f + 1 by omega]
    exact ⟨(x3 f hf).1, (x3 f hf).2.1⟩
  · by_cases c : S.2.2.1 / 8 % 2 = 0
    · refine Or.inl ⟨by rw [o5, o10 c]; rfl, ?_⟩
      rw [h90 4 (by omega), (x4 c).1]
      decide
    · have c1 : S.2.2.1 / 8 % 2 = 1 := by omega
      obtain ⟨g1, g2, g3, g4⟩ := x5 c1
      have hm' := hm c1
      exact rule_as (o11 c1).1 (o11 c1).2 o6 o5 ((h90 4 (by omega)).trans g1) (fun i hi => (h91 i (by omega)).trans (g4 i hi)) ((h91 _ (by omega)).trans g3)
  · refine ⟨S.2.1, fun k hk => ⟨(o8 k hk).2.2.2.1, (o8 k hk).2.2.2.2, ?_, ?_⟩, o9⟩
    · rw [gL_mmb, hL _ _ _ (by omega), hM1, anW_L]
      exact (p3 k hk).2.2
    · rw [gL_mmb, h4L k (by omega)]
      exact (x3 k hk).2.2
  · refine ⟨0, Nat.zero_le _, Inv_lo (fun j k hj => htb j k (by omega)) (Inv_start hCB), InV_lo (fun j k hj => htb j k (by omega)) InV_start, Rel_D (fun j k hj => htb j k (by omega)) (Rel_row (X := stX (c2X (c1X Y2 20) m) 0) (fun k h1 h2 => ?_) hCB (Rel_start hCB)), ?_, fun k hk => ⟨0, Nat.zero_le _, ?_⟩⟩
    · rw [hX' _ _ (mrow_of (by omega)), bgX_at, if_neg (by omega), if_neg (by omega), if_neg (by omega), if_neg (by omega), if_neg (by omega)]
    · rw [gR_mmb, hR, hM1, anW_R, if_pos ⟨rfl, rfl, rfl⟩]
    · rw [htb 0 k (by omega)]
      unfold startT
      rw [if_pos ⟨rfl, hk⟩]
      rfl
  · rw [hX' _ _ (mrow_of (by omega)), bgX_at, if_neg (by omega), if_neg (by omega), if_neg (by omega), if_neg (by omega), if_neg (by omega)] at q
    unfold stX at q
    rw [if_pos ⟨rfl, rfl⟩] at q
    exact absurd q (by decide)
  · rw [hgI _ _ _ (bs_c (by omega)).2, hM1, anW_I, if_neg (by omega), if_neg (by omega), if_neg (by omega), if_neg (by omega), if_neg (by omega), if_pos ⟨rfl, rfl, rfl⟩]
    rfl
  · rw [hX' _ _ (mrow_of (by omega)), bgX_at, if_neg (by omega), if_neg (by omega), if_neg (by omega), if_pos ⟨rfl, rfl⟩]
    rfl
  · refine ⟨0, fun _ => 0, fun _ => 0, fun _ => 0, ⟨by omega, ?_, fun i hi => absurd hi (Nat.not_lt_zero _)⟩, ⟨by omega, ?_, fun i hi => absurd hi (Nat.not_lt_zero _)⟩⟩
    · rw [hgI _ _ _ (bs_c (by omega)).2, hM1, anW_I, if_neg (by omega), if_neg (by omega), if_neg (by omega), if_neg (by omega), if_pos ⟨rfl, rfl, rfl⟩]
      rfl
    · rw [hX' _ _ (mrow_of (by omega)), bgX_at, if_neg (by omega), if_neg (by omega), if_neg (by omega), if_neg (by omega), if_pos ⟨rfl, rfl⟩]
      rfl
  · have e1 : gI (mmb (bgX (c2X (c1X Y2 20) m)) (nmN N2 5)) 22 19 k = 0 := by
      rw [hgI _ _ _ (bs_22 (by omega)).2, hM1, anW_I, if_neg (by omega), if_neg (by omega)]
      by_cases c1 : k = 1
      · rw [if_pos ⟨rfl, rfl, c1⟩]
      · rw [if_neg (fun z => c1 z.2.2), if_pos ⟨rfl, rfl, by omega⟩]
    have e2 : tX (mmb (bgX (c2X (c1X Y2 20) m)) (nmN N2 5)) 1 k = 0 := by
      rw [hX' _ _ (mrow_of (by omega)), bgX_at]
      by_cases c1 : k = 1
      · rw [if_pos ⟨rfl, c1⟩]
      · rw [if_neg (fun z => c1 z.2), if_pos ⟨rfl, by omega⟩]
    exact ⟨e1.trans e2.symm, Or.inl e1⟩
  · rw [hgI _ _ _ (bs_c (by omega)).2, hM1, anW_I, if_neg (by omega), if_pos ⟨rfl, rfl, rfl⟩]
  · rw [hX' _ _ (mrow_of (by omega)), bgX_at, if_neg (by omega), if_neg (by omega), if_pos ⟨rfl, rfl⟩]
  · rw [hgI _ _ _ (bs_c (by omega)).2, hM1, anW_I, if_pos ⟨rfl, rfl, rfl⟩]
    rfl
  · rw [hX' _ _ (mrow_of (by omega)), bgX_o (by omega) (by omega) (by omega) (by omega), cc_o (by omega)]
    exact h02
  · rw [gL_mmb, hL _ _ _ (by omega), hLM _ _ (by omega)]
    exact s15 k hk
end
