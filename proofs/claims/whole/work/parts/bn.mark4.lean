/-! ===== marks: the relation ===== -/
section
variable {M M' M1 M3 N N' : xM} {D E S T X X' : xT} {C : xC} {R : Nat → Int32} {d fu n m i j o p q a c k l s t w K P L L' b b' B B' f e F g pd vd sd pe ve se c' s' : Nat} {u v x y r z lo hi : Int32} {nt : Bool} {W : Nat → Nat} {V : Nat → Nat → Int32}
theorem cpD_hi (h : 16 ≤ j) : cpD S T j k = T j k := by
  unfold cpD
  rw [if_neg (by omega), if_neg (by omega)]
theorem cpD_11 : cpD S T 14 11 = 0 := by
  unfold cpD
  rw [if_neg (by omega), if_pos ⟨rfl, rfl⟩]
theorem sv_off (hm : m < 2) (q : ¬ bs c s) : gI (svM a m M) c s k = gI (emb (3 + m) (cpD (tb 0 M) (tb (3 + m) M)) (sR M 2 (3 + m) 4 (some a))) c s k := by
  have h1 := nb_1 q
  have h2 := nb_20 q
  have h3 := nb_22 q
  unfold svM
  rw [gI_sI, if_neg (by omega), clM_o (by omega) (by omega) (by omega)]
theorem bk_off (hm : m < 2) (q : ¬ bs c s) : gI (bkM a m M) c s k = gI (emb 0 (cpD (tb (3 + m) M) (tb 0 M)) (sR M 2 0 4 (some a))) c s k := by
  have h1 := nb_1 q
  have h2 := nb_20 q
  have h3 := nb_22 q
  unfold bkM
  rw [clM_o (by omega) (by omega) (by omega)]
theorem tX_sR {v : Option Nat} : tX (sR M c s k v) = tX M := rfl
theorem sv_tb (hm : m < 2) (hd : d < 5) (hj : j < 29) : tb d (svM a m M) j k = if d = 3 + m ∧ j < 16 then cpD (tb 0 M) (tb (3 + m) M) j k else tb d M j k := by
  rw [tb_off (M := emb (3 + m) (cpD (tb 0 M) (tb (3 + m) M)) (sR M 2 (3 + m) 4 (some a))) (fun c s k q => sv_off hm q) hd]
  by_cases h1 : d = 3 + m
  · subst h1
    rw [tb_own (by omega) hj]
    by_cases h2 : j < 16
    · rw [if_pos ⟨rfl, h2⟩]
    · rw [if_neg (fun q => h2 q.2), cpD_hi (by omega)]
  · rw [if_neg (fun q => h1 q.1)]
    by_cases h2 : j < 16
    · exact tb_oth hd (by omega) h1 h2
    · rw [tb_sh hd (by omega) (by omega) hj, cpD_hi (by omega)]
      exact tb_one (by omega) hd (by omega)
theorem bk_tb (hm : m < 2) (hd : d < 5) (hj : j < 29) : tb d (bkM a m M) j k = if d = 0 ∧ j < 16 then cpD (tb (3 + m) M) (tb 0 M) j k else tb d M j k := by
  rw [tb_off (M := emb 0 (cpD (tb (3 + m) M) (tb 0 M)) (sR M 2 0 4 (some a))) (fun c s k q => bk_off hm q) hd]
  by_cases h1 : d = 0
  · subst h1
    rw [tb_own (by omega) hj]
    by_cases h2 : j < 16
    · rw [if_pos ⟨rfl, h2⟩]
    · rw [if_neg (fun q => h2 q.2), cpD_hi (by omega)]
  · rw [if_neg (fun q => h1 q.1)]
    by_cases h2 : j < 16
    · exact tb_oth hd (by omega) h1 h2
    · rw [tb_sh hd (by omega) (by omega) hj, cpD_hi (by omega)]
      exact tb_one (by omega) hd (by omega)
theorem sv_tX (hm : m < 2) : tX (svM a m M) = tX M := by
  rw [tX_off (M := emb (3 + m) (cpD (tb 0 M) (tb (3 + m) M)) (sR M 2 (3 + m) 4 (some a))) (fun c s k q => sv_off hm q), tX_emb (by omega)]
  rfl
theorem bk_tX (hm : m < 2) : tX (bkM a m M) = tX M := by
  rw [tX_off (M := emb 0 (cpD (tb (3 + m) M) (tb 0 M)) (sR M 2 0 4 (some a))) (fun c s k q => bk_off hm q), tX_emb (by omega)]
  rfl
theorem gR_sR4 (h : c ≠ 2 ∨ s ≠ d ∨ k ≠ 4) : gR (sR M 2 d 4 (some a)) c s k = gR M c s k := by
  show (if c = 2 ∧ s = d ∧ k = 4 then some a else gR M c s k) = _
  rw [if_neg (by omega)]
theorem gR_sR4e : gR (sR M 2 d 4 (some a)) 2 d 4 = some a := by
  show (if 2 = 2 ∧ d = d ∧ 4 = 4 then some a else gR M 2 d 4) = _
  rw [if_pos ⟨rfl, rfl, rfl⟩]
theorem mv_o (h1 : j ≠ 95 ∨ k < q ∨ q + n ≤ k) (h2 : j ≠ 0 ∨ k ≠ 22) : mvX X p q n j k = X j k := by
  unfold mvX
  rw [if_neg (by omega), if_neg (by omega)]
theorem mv_i (hk : k < n) : mvX X p q n 95 (q + k) = X 95 (p + k) := by
  unfold mvX
  rw [if_neg (by omega), if_pos ⟨rfl, by omega, by omega⟩, show q + k - q = k by omega]
theorem mv_22 : mvX X p q n 0 22 = -1 := by
  unfold mvX
  rw [if_pos ⟨rfl, rfl⟩]
theorem bsM_sv (hm : m < 2) : BsM M (svM a m M) := fun c s k hb h1 h2 h3 => by
  unfold svM
  rw [gI_sI, if_neg (by omega), clM_o (by omega) (by omega) (by omega), gI_not (hb.1 ⟨3 + m, by omega⟩)]
  rfl
theorem bsM_bk (hm : m < 2) : BsM M (bkM a m M) := fun c s k hb h1 h2 h3 => by
  unfold bkM
  rw [clM_o (by omega) (by omega) (by omega), gI_not (d := 0) (hb.1 ⟨0, by omega⟩)]
  rfl
theorem SeenC_at {A : Nat → Nat} {Bv Sv : Nat → Int32} (h1 : gI M' 1 c 0 = gI M 1 c 0) (h2 : ∀ k, gI M' 20 p k = gI M 20 p k) (h3 : ∀ k, gI M' 20 q k = gI M 20 q k) (h4 : ∀ k, gI M' 22 s k = gI M 22 s k) (h : SeenC c p q s m A Bv Sv M) : SeenC c p q s m A Bv Sv M' := by
  obtain ⟨g1, g2, g3⟩ := h
  refine ⟨g1, h1.trans g2, fun i hi => ?_⟩
  rw [h2, h3, h4]
  exact g3 i hi
theorem op_mark (hS : SimP C R a w n W V B M) (hf : 1100 < fu) : Both C R a w n W V B (F_X11_mark fu 0 x y) (F_X12_mark fu 0 x y) M := by
  obtain ⟨s1, s2, s3, s4, s5, s6, s7, s8, s9, s10, s11, s12, s13, s14, s15⟩ := id hS
  obtain ⟨L, l1, l2, l3, l4, l5, l6⟩ := id s7
  have h := s1.1
  by_cases P : x < 0 ∨ ¬ x < 2 ∨ y ≠ 0 ∧ gI M 22 19 (xi x) = 0
  · refine op_same (r := 0) hS (e_markNo h P) (fun M1 h1 => ⟨_, ?_, FmS_0 (v := 0) s8⟩)
    by_cases c1 : x < 0 ∨ 1 < x
    · unfold F_X12_mark
      simp only [sI_th]
      rw [wi_f c1]
      simp only [Option.bind_some]
      rw [if_pos trivial, xb_f, gd_t]
    · obtain ⟨m, hm, rfl⟩ := i3_of (Int32.not_lt.mp (fun q => c1 (Or.inl q)))
      have hm2 : m < 2 := by
        by_cases z : m < 2
        · exact z
        · exact absurd (Or.inr ((i3_lt (a := 1) (by omega) hm).mpr (by omega))) c1
      rcases P with P | P | ⟨P, Q⟩
      · exact absurd (Or.inl P) c1
      · exact absurd ((i3_lt (b := 2) (by omega) (by omega)).mpr hm2) P
      · have hq : tX M 1 m = 0 := by
          have := (s12 m hm2).1
          rw [xi_i3 (by omega)] at Q
          rw [← this]; exact Q
        have := t_markBack (fu := fu) (X := tX M) h1 hm2 P hf
        rw [if_pos hq] at this
        exact this
  · have hx0 : ¬ x < 0 := fun q => P (Or.inl q)
    obtain ⟨m, hm, rfl⟩ := i3_of (Int32.not_lt.mp hx0)
    have hm2 : m < 2 := by
      by_cases z : m < 2
      · exact z
      · exact absurd (Or.inr (Or.inl (fun q => z ((i3_lt (b := 2) (by omega) (by omega)).mp q)))) P
    have hdm : 3 + m < 5 := by omega
    by_cases hy : y = 0
    · subst hy
      have hlay : Lay (svM a m M) := Lay_sR4 (M := M) (d := 3 + m) h
      have hmv := t_markSave (fu := fu) (X := tX M) hlay hm2 hf
      rw [← sv_tX (a := a) hm2, mmb_tX, sv_tX hm2] at hmv
      have hX : ∀ j k, mrow j → tX (mmb (mvX (up (up (tX M) 0 0 0) 1 m 1) 0 (535 * (1 + m)) 535) (svM a m M)) j k = mvX (up (up (tX M) 0 0 0) 1 m 1) 0 (535 * (1 + m)) 535 j k := fun j k hj => tX_mmb hj
      have hT : ∀ d j k, d < 5 → j < 29 → tb d (mmb (mvX (up (up (tX M) 0 0 0) 1 m 1) 0 (535 * (1 + m)) 535) (svM a m M)) j k = if d = 3 + m ∧ j < 16 then cpD (tb 0 M) (tb (3 + m) M) j k else tb d M j k := fun d j k hd hj => by rw [tb_mmb hd]; exact sv_tb hm2 hd hj
      have hG : ∀ c s k, mow c s = none → gI (mmb (mvX (up (up (tX M) 0 0 0) 1 m 1) 0 (535 * (1 + m)) 535) (svM a m M)) c s k = gI (svM a m M) c s k := fun c s k q => mI_not q
      have h95 : ∀ k, (k < 535 * (1 + m) ∨ 535 * (1 + m) + 535 ≤ k) → tX (mmb (mvX (up (up (tX M) 0 0 0) 1 m 1) 0 (535 * (1 + m)) 535) (svM a m M)) 95 k = tX M 95 k := fun k hk => by
        rw [hX 95 k (mrow_of (by omega)), mv_o (by omega) (by omega), up_ne (by omega), up_ne (by omega)]
      have h95m : ∀ k, k < 535 → tX (mmb (mvX (up (up (tX M) 0 0 0) 1 m 1) 0 (535 * (1 + m)) 535) (svM a m M)) 95 (535 * (1 + m) + k) = tX M 95 (0 + k) := fun k hk => by
        rw [hX 95 _ (mrow_of (by omega)), mv_i hk, up_ne (by omega), up_ne (by omega)]
      have hcl : ∀ c s k, bs c s → (c ≠ 1 ∨ s ≠ 1 + m) → (c ≠ 20 ∨ s ≠ 83 + 2 * m ∧ s ≠ 84 + 2 * m) → (c ≠ 22 ∨ s ≠ 17 + m ∧ s ≠ 19) → gI (mmb (mvX (up (up (tX M) 0 0 0) 1 m 1) 0 (535 * (1 + m)) 535) (svM a m M)) c s k = gI M c s k := fun c s k hb q1 q2 q3 => by
        rw [hG c s k hb.2]
        unfold svM
        rw [gI_sI, if_neg (by omega), clM_o q1 q2 (by omega), gI_not (hb.1 ⟨3 + m, by omega⟩)]
        rfl
      have h19 : ∀ k, gI (mmb (mvX (up (up (tX M) 0 0 0) 1 m 1) 0 (535 * (1 + m)) 535) (svM a m M)) 22 19 k = if k = m then 1 else gI M 22 19 k := fun k => by
        have hb : bs 22 19 := bs_22 (by omega)
        rw [hG 22 19 k hb.2]
        unfold svM
        rw [gI_sI]
        by_cases q : k = m
        · rw [if_pos ⟨rfl, rfl, q⟩, if_pos q]
        · rw [if_neg (fun z => q z.2.2), if_neg q, clM_o (by omega) (by omega) (by omega), gI_not (hb.1 ⟨3 + m, by omega⟩)]
          rfl
      refine ⟨1, _, _, e_markSave h hm2 l5 l2.2.2.2.2.2.2.1.1, hmv, ?_⟩
      refine Sim_mark hS hlay (fun c s k q => gR_sR4 (by omega)) (fun s k => rfl) (fun c s k hb q1 q2 q3 => by rw [hG c s k hb.2]; exact bsM_sv hm2 c s k hb q1 q2 q3) (fun j k hj => ?_) ?_ ?_ ?_ ?_ (fun j k q1 q2 => ?_) (fun j k q1 => ?_)
      · rw [hX j k (mrow_of (by omega)), mv_o (by omega) (by omega), up_ne (by omega), up_ne (by omega)]
      · rw [hX 0 22 (mrow_of (by omega)), mv_22]
      · exact PDisk_cg s2 (Nat.le_refl _) (fun j k hj => by rw [hT 0 j k (by omega) (by omega), if_neg (by omega)]) (fun k q1 q2 => h95 k (by omega)) (gR_sR4 (by omega)) s7
      · obtain ⟨mm, A, Bv, Sv, g1, g2⟩ := s11
        exact ⟨mm, A, Bv, Sv, SeenC_at (hcl _ _ _ (bs_c (by omega)) (by omega) (by omega) (by omega)) (fun k => hcl _ _ _ (bs_20 (by omega)) (by omega) (by omega) (by omega)) (fun k => hcl _ _ _ (bs_20 (by omega)) (by omega) (by omega) (by omega)) (fun k => hcl _ _ _ (bs_22 (by omega)) (by omega) (by omega) (by omega)) g1, Seen_row (fun k q1 q2 => h95 k (by omega)) g2⟩
      · intro k hk
        obtain ⟨p1, p2⟩ := s12 k hk
        rw [h19 k, hX 1 k (mrow_of (by omega)), mv_o (by omega) (by omega)]
        by_cases q : k = m
        · subst q
          rw [if_pos rfl, up_eq]
          refine ⟨rfl, Or.inr ⟨rfl, PDisk_mv s2 (b := 0) (e := 0) (fun j i hr => ?_) ?_ (fun k' hk' => h95m k' (by omega)) gR_sR4e s7, ?_⟩⟩
          · rw [hT (3 + k) j i hdm (by unfold rg at hr; omega), if_pos ⟨rfl, by unfold rg at hr; omega⟩]
            exact cpD_rg hr
          · rw [hT (3 + k) 14 11 hdm (by omega), if_pos ⟨rfl, by omega⟩]
            exact cpD_11
          · obtain ⟨mm, A, Bv, Sv, g1, g2⟩ := s11
            have g1' : SeenC 0 44 45 6 mm A Bv Sv (emb (3 + k) (cpD (tb 0 M) (tb (3 + k) M)) (sR M 2 (3 + k) 4 (some a))) := SeenC_at (gI_not ((bs_c (c := 1) (s := 0) (by omega)).1 ⟨3 + k, hdm⟩)) (fun i => gI_not ((bs_20 (s := 44) (by omega)).1 ⟨3 + k, hdm⟩)) (fun i => gI_not ((bs_20 (s := 45) (by omega)).1 ⟨3 + k, hdm⟩)) (fun i => gI_not ((bs_22 (s := 6) (by omega)).1 ⟨3 + k, hdm⟩)) g1
            have g3 := SeenC_cl (d := 1 + k) (pd := 83 + 2 * k) (vd := 84 + 2 * k) (sd := 17 + k) (by omega) (by omega) g1'
            refine ⟨mm, A, Bv, Sv, SeenC_at ?_ (fun i => ?_) (fun i => ?_) (fun i => ?_) g3, SeenX_sh (b := 0) (fun i q1 q2 => h95m i (by omega)) g2⟩
            · rw [hG _ _ _ (bs_c (by omega)).2]
              exact (gI_sI).trans (if_neg (by omega))
            · rw [hG _ _ _ (bs_20 (by omega)).2]
              exact (gI_sI).trans (if_neg (by omega))
            · rw [hG _ _ _ (bs_20 (by omega)).2]
              exact (gI_sI).trans (if_neg (by omega))
            · rw [hG _ _ _ (bs_22 (by omega)).2]
              exact (gI_sI).trans (if_neg (by omega))
        · rw [if_neg q, up_ne (by omega), up_ne (by omega)]
          refine ⟨p1, ?_⟩
          rcases p2 with p2 | ⟨p2, p3, p4⟩
          · exact Or.inl p2
          · refine Or.inr ⟨p2, PDisk_cg s2 (Nat.le_refl _) (fun j i hj => by rw [hT (3 + k) j i (by omega) (by omega), if_neg (by omega)]) (fun i q1 q2 => h95 i (by omega)) (gR_sR4 (by omega)) p3, ?_⟩
            obtain ⟨mm, A, Bv, Sv, g1, g2⟩ := p4
            exact ⟨mm, A, Bv, Sv, SeenC_at (hcl _ _ _ (bs_c (by omega)) (by omega) (by omega) (by omega)) (fun i => hcl _ _ _ (bs_20 (by omega)) (by omega) (by omega) (by omega)) (fun i => hcl _ _ _ (bs_20 (by omega)) (by omega) (by omega) (by omega)) (fun i => hcl _ _ _ (bs_22 (by omega)) (by omega) (by omega) (by omega)) g1, Seen_row (fun i q1 q2 => h95 i (by omega)) g2⟩
      · rw [hT 2 j k (by omega) (by omega), if_neg (by omega)]
      · rw [hT 2 j k (by omega) (by omega), if_neg (by omega)]
    · have h19' : gI M 22 19 m ≠ 0 := fun q => P (Or.inr (Or.inr ⟨hy, by rw [xi_i3 (by omega)]; exact q⟩))
      obtain ⟨p1, p2⟩ := s12 m hm2
      obtain ⟨p2, p3, p4⟩ := p2.resolve_left h19'
      obtain ⟨Lm, m1, m2, m3, m4, m5, m6⟩ := id p3
      have hlay : Lay (bkM a m M) := Lay_sR4 (M := M) (d := 0) h
      have hmv := t_markBack (fu := fu) (X := tX M) hlay hm2 hy hf
      rw [if_neg (fun q => h19' (p1.trans q)), ← bk_tX (a := a) hm2, mmb_tX, bk_tX hm2] at hmv
      have hX : ∀ j k, mrow j → tX (mmb (mvX (up (up (tX M) 0 0 0) 1 m 1) (535 * (1 + m)) 0 535) (bkM a m M)) j k = mvX (up (up (tX M) 0 0 0) 1 m 1) (535 * (1 + m)) 0 535 j k := fun j k hj => tX_mmb hj
      have hT : ∀ d j k, d < 5 → j < 29 → tb d (mmb (mvX (up (up (tX M) 0 0 0) 1 m 1) (535 * (1 + m)) 0 535) (bkM a m M)) j k = if d = 0 ∧ j < 16 then cpD (tb (3 + m) M) (tb 0 M) j k else tb d M j k := fun d j k hd hj => by rw [tb_mmb hd]; exact bk_tb hm2 hd hj
      have hG : ∀ c s k, mow c s = none → gI (mmb (mvX (up (up (tX M) 0 0 0) 1 m 1) (535 * (1 + m)) 0 535) (bkM a m M)) c s k = gI (bkM a m M) c s k := fun c s k q => mI_not q
      have h95 : ∀ k, 535 ≤ k → tX (mmb (mvX (up (up (tX M) 0 0 0) 1 m 1) (535 * (1 + m)) 0 535) (bkM a m M)) 95 k = tX M 95 k := fun k hk => by
        rw [hX 95 k (mrow_of (by omega)), mv_o (by omega) (by omega), up_ne (by omega), up_ne (by omega)]
      have h95m : ∀ k, k < 535 → tX (mmb (mvX (up (up (tX M) 0 0 0) 1 m 1) (535 * (1 + m)) 0 535) (bkM a m M)) 95 (0 + k) = tX M 95 (535 * (1 + m) + k) := fun k hk => by
        rw [hX 95 _ (mrow_of (by omega)), mv_i hk, up_ne (by omega), up_ne (by omega)]
      have hcl : ∀ c s k, bs c s → (c ≠ 1 ∨ s ≠ 0) → (c ≠ 20 ∨ s ≠ 44 ∧ s ≠ 45) → (c ≠ 22 ∨ s ≠ 6) → gI (mmb (mvX (up (up (tX M) 0 0 0) 1 m 1) (535 * (1 + m)) 0 535) (bkM a m M)) c s k = gI M c s k := fun c s k hb q1 q2 q3 => by
        rw [hG c s k hb.2]
        unfold bkM
        rw [clM_o q1 q2 q3, gI_not (d := 0) (hb.1 ⟨0, by omega⟩)]
        rfl
      refine ⟨1, _, _, e_markBack h hm2 hy m5 h19' m2.2.2.2.2.2.2.1.1, hmv, ?_⟩
      refine Sim_mark hS hlay (fun c s k q => gR_sR4 (by omega)) (fun s k => rfl) (fun c s k hb q1 q2 q3 => by rw [hG c s k hb.2]; exact bsM_bk hm2 c s k hb q1 q2 q3) (fun j k hj => ?_) ?_ ?_ ?_ ?_ (fun j k q1 q2 => ?_) (fun j k q1 => ?_)
      · rw [hX j k (mrow_of (by omega)), mv_o (by omega) (by omega), up_ne (by omega), up_ne (by omega)]
      · rw [hX 0 22 (mrow_of (by omega)), mv_22]
      · refine PDisk_mv s2 (b := 535 * (1 + m)) (e := 3 + m) (fun j i hr => ?_) ?_ (fun k' hk' => h95m k' (by omega)) gR_sR4e p3
        · rw [hT 0 j i (by omega) (by unfold rg at hr; omega), if_pos ⟨rfl, by unfold rg at hr; omega⟩]
          exact cpD_rg hr
        · rw [hT 0 14 11 (by omega) (by omega), if_pos ⟨rfl, by omega⟩]
          exact cpD_11
      · obtain ⟨mm, A, Bv, Sv, g1, g2⟩ := p4
        have g1' : SeenC (1 + m) (83 + 2 * m) (84 + 2 * m) (17 + m) mm A Bv Sv (emb 0 (cpD (tb (3 + m) M) (tb 0 M)) (sR M 2 0 4 (some a))) := SeenC_at (gI_not (d := 0) ((bs_c (c := 1) (s := 1 + m) (by omega)).1 ⟨0, by omega⟩)) (fun i => gI_not (d := 0) ((bs_20 (s := 83 + 2 * m) (by omega)).1 ⟨0, by omega⟩)) (fun i => gI_not (d := 0) ((bs_20 (s := 84 + 2 * m) (by omega)).1 ⟨0, by omega⟩)) (fun i => gI_not (d := 0) ((bs_22 (s := 17 + m) (by omega)).1 ⟨0, by omega⟩)) g1
        have g3 := SeenC_cl (d := 0) (pd := 44) (vd := 45) (sd := 6) (by omega) (by omega) g1'
        refine ⟨mm, A, Bv, Sv, SeenC_at (hG _ _ _ (bs_c (by omega)).2) (fun i => hG _ _ _ (bs_20 (by omega)).2) (fun i => hG _ _ _ (bs_20 (by omega)).2) (fun i => hG _ _ _ (bs_22 (by omega)).2) g3, SeenX_sh (b := 535 * (1 + m)) (fun i q1 q2 => h95m i (by omega)) g2⟩
      · intro k hk
        obtain ⟨p1', p2'⟩ := s12 k hk
        have e19 : gI (mmb (mvX (up (up (tX M) 0 0 0) 1 m 1) (535 * (1 + m)) 0 535) (bkM a m M)) 22 19 k = gI M 22 19 k := hcl _ _ _ (bs_22 (by omega)) (by omega) (by omega) (by omega)
        rw [e19, hX 1 k (mrow_of (by omega)), mv_o (by omega) (by omega)]
        refine ⟨?_, ?_⟩
        · by_cases q : k = m
          · subst q
            rw [up_eq]; exact p2
          · rw [up_ne (by omega), up_ne (by omega)]; exact p1'
        · rcases p2' with p2' | ⟨p2', p3', p4'⟩
          · exact Or.inl p2'
          · refine Or.inr ⟨p2', PDisk_cg s2 (Nat.le_refl _) (fun j i hj => by rw [hT (3 + k) j i (by omega) (by omega), if_neg (by omega)]) (fun i q1 q2 => h95 i (by omega)) (gR_sR4 (by omega)) p3', ?_⟩
            obtain ⟨mm, A, Bv, Sv, g1, g2⟩ := p4'
            exact ⟨mm, A, Bv, Sv, SeenC_at (hcl _ _ _ (bs_c (by omega)) (by omega) (by omega) (by omega)) (fun i => hcl _ _ _ (bs_20 (by omega)) (by omega) (by omega) (by omega)) (fun i => hcl _ _ _ (bs_20 (by omega)) (by omega) (by omega) (by omega)) (fun i => hcl _ _ _ (bs_22 (by omega)) (by omega) (by omega) (by omega)) g1, Seen_row (fun i q1 q2 => h95 i (by omega)) g2⟩
      · rw [hT 2 j k (by omega) (by omega), if_neg (by omega)]
      · rw [hT 2 j k (by omega) (by omega), if_neg (by omega)]
end
