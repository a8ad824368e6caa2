/-! ===== see: the relation ===== -/
section
variable {M M' M1 M3 N N' : xM} {D E S T X X' Y Z : xT} {C : xC} {R : Nat → Int32} {d fu n m i j o p q a c k l s t w K P L L' b b' B B' f e F g l0 : Nat} {u v x y r z lo hi hh ff : Int32} {gg Bv Sv : Nat → Int32} {nt : Bool} {W A : Nat → Nat} {V : Nat → Nat → Int32}
theorem seM_o (h : c ≠ 1 ∧ (c ≠ 20 ∨ s ≠ 44 ∧ s ≠ 45) ∧ (c ≠ 22 ∨ s ≠ 6) ∨ c = 1 ∧ s ≠ 0) : gI (seM M m p z v) c s k = gI M c s k := by
  unfold seM
  rw [gI_sI, if_neg (by omega), gI_sI, if_neg (by omega), gI_sI, if_neg (by omega), gI_sI, if_neg (by omega)]
theorem se_off (q : ¬ bs c s) : gI (seM M m p z v) c s k = gI M c s k := by
  have h1 := nb_1 q
  have h2 := nb_20 q
  have h3 := nb_22 q
  exact seM_o (by omega)
theorem seX_o (h : j ≠ 0 ∨ k ≠ 0) (h2 : j ≠ 95 ∨ k < 502 ∨ 535 ≤ k) (hm : m < 8) : seX X m f p z v j k = X j k := by
  unfold seX
  rw [up_ne (by omega), up_ne (by omega), up_ne (by omega), up_ne (by omega), up_ne (by omega), up_ne (by omega)]
theorem Se_C (hm : m < 8) (hp : p < 20) (hv : v = 0 ∨ v = 1) (h : SeenC 0 44 45 6 m A Bv Sv M) : SeenC 0 44 45 6 (m + 1) (fun i => if i = m then p else A i) (fun i => if i = m then z else Bv i) (fun i => if i = m then v else Sv i) (seM M m p z v) := by
  obtain ⟨h1, h2, h3⟩ := h
  refine ⟨by omega, by unfold seM; rw [gI_sI, if_pos ⟨rfl, rfl, rfl⟩], fun i hi => ?_⟩
  by_cases q : i = m
  · subst q
    simp only [if_true]
    refine ⟨hp, ?_, ?_, ?_, hv⟩
    · unfold seM
      rw [gI_sI, if_neg (by omega), gI_sI, if_neg (by omega), gI_sI, if_neg (by omega), gI_sI, if_pos ⟨rfl, rfl, rfl⟩]
    · unfold seM
      rw [gI_sI, if_neg (by omega), gI_sI, if_neg (by omega), gI_sI, if_pos ⟨rfl, rfl, rfl⟩]
    · unfold seM
      rw [gI_sI, if_neg (by omega), gI_sI, if_pos ⟨rfl, rfl, rfl⟩]
  · simp only [if_neg q]
    obtain ⟨a1, a2, a3, a4, a5⟩ := h3 i (by omega)
    refine ⟨a1, ?_, ?_, ?_, a5⟩
    · unfold seM
      rw [gI_sI, if_neg (by omega), gI_sI, if_neg (by omega), gI_sI, if_neg (by omega), gI_sI, if_neg (by omega)]
      exact a2
    · unfold seM
      rw [gI_sI, if_neg (by omega), gI_sI, if_neg (by omega), gI_sI, if_neg (by omega), gI_sI, if_neg (by omega)]
      exact a3
    · unfold seM
      rw [gI_sI, if_neg (by omega), gI_sI, if_neg (by omega), gI_sI, if_neg (by omega), gI_sI, if_neg (by omega)]
      exact a4
theorem Se_X (hm : m < 8) (hf : f < 5) (hp : p < 4) (hv : v = 0 ∨ v = 1) (h : SeenX m A Bv Sv 0 X) : SeenX (m + 1) (fun i => if i = m then f * 4 + p else A i) (fun i => if i = m then z else Bv i) (fun i => if i = m then v else Sv i) 0 (seX X m f p z v) := by
  obtain ⟨h1, h2, h3⟩ := h
  refine ⟨by omega, by unfold seX; exact up_eq, fun i hi => ?_⟩
  by_cases q : i = m
  · subst q
    simp only [if_true]
    refine ⟨f, p, hf, hp, rfl, ?_, ?_, ?_, ?_, hv⟩
    · unfold seX
      rw [show 0 + 503 + 4 * i = 503 + 4 * i by omega, up_ne (by omega), up_ne (by omega), up_ne (by omega), up_ne (by omega), up_eq]
    · unfold seX
      rw [show 0 + 503 + 4 * i + 1 = 504 + 4 * i by omega, up_ne (by omega), up_ne (by omega), up_ne (by omega), up_eq]
    · unfold seX
      rw [show 0 + 503 + 4 * i + 2 = 505 + 4 * i by omega, up_ne (by omega), up_ne (by omega), up_eq]
    · unfold seX
      rw [show 0 + 503 + 4 * i + 3 = 506 + 4 * i by omega, up_ne (by omega), up_eq]
  · simp only [if_neg q]
    obtain ⟨f', p', a1, a2, a3, a4, a5, a6, a7, a8⟩ := h3 i (by omega)
    have z : ∀ o, o < 4 → seX X m f p z v 95 (0 + 503 + 4 * i + o) = X 95 (0 + 503 + 4 * i + o) := fun o ho => by
      unfold seX
      rw [up_ne (by omega), up_ne (by omega), up_ne (by omega), up_ne (by omega), up_ne (by omega), up_ne (by omega)]
    exact ⟨f', p', a1, a2, a3, (z 0 (by omega)).trans a4, (z 1 (by omega)).trans a5, (z 2 (by omega)).trans a6, (z 3 (by omega)).trans a7, a8⟩
theorem op_see (hS : SimP C R a w n W V B M) (hv : v = 0 ∨ v = 1) : Both C R a w n W V B (F_X11_see fu 0 x y z v) (F_X12_see fu 0 x y z v) M := by
  obtain ⟨s1, s2, s3, s4, s5, s6, s7, s8, s9, s10, ⟨m, A, Bv, Sv, c1, c2⟩, s12, s13, s14, s15⟩ := id hS
  have h := s1.1
  have ep := e_isPage (fu := fu) (x := x) (y := y) h s1.2.1 s3
  have hm1 : gI M 1 0 0 = i3 m := c1.2.1
  have hm2 : tX M 95 502 = i3 m := c2.2.1
  have hm8 : m ≤ 8 := c1.1
  by_cases P : isPageB C x y = false ∨ z < -1 ∨ 255 < z ∨ tX M 95 502 = i3 8
  · refine op_same (r := 0) hS ?_ (fun M1 h1 => ⟨_, t_addNo h1 s4 s2 P, FmS_0 (v := 0) s8⟩)
    unfold F_X11_see
    rw [s1.2.2.2.1]
    simp only [Option.bind_some]
    rw [ep]
    simp only [Option.bind_some, bz_0]
    cases d1 : isPageB C x y with
    | false => rw [if_pos rfl, xb_f, gd_t]
    | true =>
      rw [if_neg (by decide)]
      by_cases d2 : z < -1
      · rw [if_pos d2, xb_f, gd_t]
      rw [if_neg d2]
      by_cases d3 : z ≤ 255
      · have d4 : m = 8 := by
          rcases P with q | q | q | q
          · rw [d1] at q; cases q
          · exact absurd q d2
          · exact absurd d3 (Int32.not_le.mpr q)
          · rw [hm2] at q
            exact (i3_eq (by omega) (by omega)).mp q
        rw [if_pos d3, l11_0_8 h]
        simp only [Option.bind_some]
        rw [e_addNo hm1 (by omega) hm8]
        simp only [Option.bind_some]
        rw [xb_f, gd_t]
      · rw [if_neg d3, xb_f, gd_t]
  · have d1 : isPageB C x y = true := by
      cases q : isPageB C x y with
      | true => rfl
      | false => exact absurd (Or.inl q) P
    have d2 : ¬ z < -1 := fun q => P (Or.inr (Or.inl q))
    have d3 : ¬ 255 < z := fun q => P (Or.inr (Or.inr (Or.inl q)))
    have d4 : m < 8 := by
      by_cases q : m < 8
      · exact q
      · exact absurd (Or.inr (Or.inr (Or.inr (by rw [hm2]; congr 1; omega)))) P
    have c4 := s2.2.2.2.2.2
    have c5 := s2.2.2.2.1
    obtain ⟨f, p, hf', hp, rfl, rfl⟩ := isPage_ex d1 c5 (fun f hf => (c4 f hf).2.2)
    have hp4 := (c4 f hf').2.2
    have ex : i3 f * 4 + i3 p = i3 (f * 4 + p) := by rw [show (4 : Int32) = i3 4 from rfl, i3_mul, i3_add]
    have hN : tX (seM M m (f * 4 + p) z v) = tX M := tX_off (fun c s k q => se_off q)
    have hlay : Lay (seM M m (f * 4 + p) z v) := h
    have hg := t_add (fu := fu) (X := tX M) (z := z) (v := v) hlay s4 s2 d1 d2 d3 hm2 d4 hv
    have hm : mmb (tX M) (seM M m (f * 4 + p) z v) = seM M m (f * 4 + p) z v := by rw [← hN]; exact mmb_tX _
    rw [hm] at hg
    have hX : ∀ j k, mrow j → tX (mmb (seX (tX M) m f p z v) (seM M m (f * 4 + p) z v)) j k = seX (tX M) m f p z v j k := fun j k hj => tX_mmb hj
    have hG : ∀ c s k, mow c s = none → gI (mmb (seX (tX M) m f p z v) (seM M m (f * 4 + p) z v)) c s k = gI (seM M m (f * 4 + p) z v) c s k := fun c s k q => mI_not q
    have hT : ∀ d j k, d < 5 → tb d (mmb (seX (tX M) m f p z v) (seM M m (f * 4 + p) z v)) j k = tb d M j k := fun d j k hd => by
      rw [tb_mmb hd, tb_off (M := M) (fun c s k q => se_off q) hd]
    have h95 : ∀ k, (k < 502 ∨ 535 ≤ k) → tX (mmb (seX (tX M) m f p z v) (seM M m (f * 4 + p) z v)) 95 k = tX M 95 k := fun k hk => by
      rw [hX 95 k (mrow_of (by omega)), seX_o (by omega) (by omega) d4]
    refine ⟨1, _, _, ?_, hg, ?_⟩
    · unfold F_X11_see
      rw [s1.2.2.2.1]
      simp only [Option.bind_some]
      rw [ep]
      simp only [Option.bind_some, bz_0]
      rw [d1, if_neg (by decide), if_neg d2, if_pos (Int32.not_lt.mp d3), l11_0_8 h]
      simp only [Option.bind_some]
      rw [ex, e_add h hm1 d4 hv]
      simp only [Option.bind_some]
      rw [xb_t, gd_t]
    · refine Sim_mark2 hS hlay (fun c s k q => rfl) (fun s k => rfl) (fun c s k hb q1 q2 q3 => by rw [hG c s k hb.2]; exact seM_o (by omega)) (fun j k hj => ?_) (fun q => ?_) ?_ ?_ ?_ (fun j k q1 q2 => hT 2 j k (by omega)) (fun j k q1 => hT 2 j k (by omega))
      · rw [hX j k (mrow_of (by omega)), seX_o (by omega) (by omega) d4]
      · rw [hX 0 22 (mrow_of (by omega)), seX_o (by omega) (by omega) d4] at q
        have := s8 q
        unfold Lk at this ⊢
        rw [hX 0 20 (mrow_of (by omega)), hX 0 21 (mrow_of (by omega)), seX_o (by omega) (by omega) d4, seX_o (by omega) (by omega) d4, show fsN (tb 0 (mmb (seX (tX M) m f p z v) (seM M m (f * 4 + p) z v))) = fsN (tb 0 M) by unfold fsN wpN bsN; rw [hT 0 _ _ (by omega), hT 0 _ _ (by omega)], show wpN (tb 0 (mmb (seX (tX M) m f p z v) (seM M m (f * 4 + p) z v))) = wpN (tb 0 M) by unfold wpN; rw [hT 0 _ _ (by omega)]]
        exact this
      · exact PDisk_cg s2 (Nat.le_refl _) (fun j k hj => hT 0 j k (by omega)) (fun k q1 q2 => h95 k (by omega)) rfl s7
      · refine ⟨m + 1, _, _, _, SeenC_at (hG _ _ _ (bs_c (by omega)).2) (fun i => hG _ _ _ (bs_20 (by omega)).2) (fun i => hG _ _ _ (bs_20 (by omega)).2) (fun i => hG _ _ _ (bs_22 (by omega)).2) (Se_C d4 (show f * 4 + p < 20 by omega) hv c1), ?_⟩
        exact Seen_row (fun k q1 q2 => hX 95 k (mrow_of (by omega))) (Se_X d4 (by omega) (by omega) hv c2)
      · intro k hk
        obtain ⟨p1, p2⟩ := s12 k hk
        have e19 : gI (mmb (seX (tX M) m f p z v) (seM M m (f * 4 + p) z v)) 22 19 k = gI M 22 19 k := (hG 22 19 k (bs_22 (by omega)).2).trans (seM_o (by omega))
        refine ⟨?_, ?_⟩
        · rw [e19, hX 1 k (mrow_of (by omega)), seX_o (by omega) (by omega) d4]; exact p1
        · rw [e19]
          rcases p2 with p2 | ⟨p2, p3, p4⟩
          · exact Or.inl p2
          · refine Or.inr ⟨p2, PDisk_cg s2 (Nat.le_refl _) (fun j i hj => hT (3 + k) j i (by omega)) (fun i q1 q2 => h95 i (by omega)) rfl p3, ?_⟩
            obtain ⟨mm, A', Bv', Sv', g1, g2⟩ := p4
            exact ⟨mm, A', Bv', Sv', SeenC_at ((hG _ _ _ (bs_c (by omega)).2).trans (seM_o (by omega))) (fun i => (hG _ _ _ (bs_20 (by omega)).2).trans (seM_o (by omega))) (fun i => (hG _ _ _ (bs_20 (by omega)).2).trans (seM_o (by omega))) (fun i => (hG _ _ _ (bs_22 (by omega)).2).trans (seM_o (by omega))) g1, Seen_row (fun i q1 q2 => h95 i (by omega)) g2⟩
end
