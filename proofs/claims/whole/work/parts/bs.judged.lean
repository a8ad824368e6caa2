/-! ===== judged: both sides ===== -/
section
variable {M M' M1 M3 N N' : xM} {D E S T X X' Y Z : xT} {C : xC} {R : Nat → Int32} {d fu n m i j o p q a c k l s t w K P L L' b b' B B' f e F g l0 : Nat} {u v x y r z lo hi hh ff : Int32} {gg Bv Sv : Nat → Int32} {nt : Bool} {W A : Nat → Nat} {V : Nat → Nat → Int32} {φ ok : Nat → Bool} {mx mx' : Nat → Nat}
theorem fwF_s {cd : Nat → Bool} {i : Nat} : fwF cd (i + 1) = if cd i then fwF cd i else if 0 ≤ fwF cd i then fwF cd i else i3 i := rfl
theorem t_judged28 (h : Lay M) (hB : CB C) (hf : 1100 < fu) (hn : n ≤ 24) (hE : InE (startT C D) 0 0) : ∀ m i l Y, i + m = n → m < l → MCfg C Y → RuleAs C R Y → WkAs n W V Y → Rel C 1605 (wkN C R a W V D i) Y → (Y 0 22 = i3 1605 → Lk (wkN C R a W V D i) Y) → Y 95 1611 = i3 (wkP C R a W V D i) →
    ∃ Z, L_X12_judged_28 fu l 0 z (fwF (dcB C R a W V D) i) (i3 i) (mmb Y M) = some (if z = 0 then fwF (dcB C R a W V D) n else if z = 1 then i3 (wkP C R a W V D n) else if z = 2 then wkN C R a W V D n 15 3 else wkN C R a W V D n 14 3, mmb Z M) ∧ Fm 1605 Y Z := by
  intro m
  have x0 : xin 0 200 = true := by decide
  have x0' : xi (0 : Int32) = 0 := by decide
  induction m with
  | zero =>
    intro i l Y hi hl hM hU hW hR hLk h6
    obtain ⟨l, rfl⟩ : ∃ k, l = k + 1 := ⟨l - 1, by omega⟩
    obtain rfl : i = n := by omega
    have e0 := hW.1
    have e7 : Y 95 1612 = wkN C R a W V D i 14 3 := hR.2.2.2.2.2.2.1
    have i1 := (wkN_Inv (R := R) (a := a) (W := W) (V := V) (D := D) hB hn).1
    have k1 : F_X12_erased fu 0 1605 (mmb Y M) = some (wkN C R a W V D i 15 3, mmb Y M) := t_erased (b := 1605) h hM (by omega) hB hR i1.2.2.2.2.2.2.2 (by omega)
    refine ⟨Y, ?_, Fm_rf⟩
    conv => lhs; unfold L_X12_judged_28
    rw [gR_mmb, l12_0_14 h]
    simp only [Option.bind_some, gN_mmb]
    rw [n20_92 h, x0, gd_t, x0', m_92, e0, if_pos (Int32.le_refl _)]
    by_cases z0 : z = 0
    · rw [if_neg (fun q => q z0), if_pos z0]
    rw [if_pos z0, if_neg z0]
    by_cases z1 : z = 1
    · rw [if_neg (fun q => q z1), if_pos z1, gR_mmb, l12_0_17 h]
      simp only [Option.bind_some, gN_mmb]
      rw [n20_95 h, show xin 1611 2675 = true by decide, gd_t, show xi (1611 : Int32) = 1611 by decide, m_95, h6]
    rw [if_pos z1, if_neg z1]
    by_cases z2 : z = 2
    · rw [if_neg (fun q => q z2), if_pos z2, k1]
      rfl
    · rw [if_pos z2, if_neg z2, gR_mmb, l12_0_17 h]
      simp only [Option.bind_some, gN_mmb]
      rw [n20_95 h, show xin 1612 2675 = true by decide, gd_t, show xi (1612 : Int32) = 1612 by decide, m_95, e7]
  | succ m ih =>
    intro i l Y hi hl hM hU hW hR hLk h6
    obtain ⟨l, rfl⟩ : ∃ k, l = k + 1 := ⟨l - 1, by omega⟩
    have e0 := hW.1
    obtain ⟨w0, w1, w2, w3, w4, g, w5, w6⟩ := hW.2.2 i (by omega)
    rw [w6] at w4
    obtain ⟨i1, i2⟩ := wkN_Inv (R := R) (a := a) (W := W) (V := V) (D := D) (i := i) hB (by omega)
    obtain ⟨P, K, p1, p2, p3⟩ := wk_notes (R := R) (a := a) (W := W) (V := V) hB (Inv_startF (C := C) (D := D) hB) (InV_startF hB) (by omega) stF_142 (InE_stF hE) i (by omega)
    have eP : wkP C R a W V D i = P := (InE_P p2).symm
    rw [eP] at h6
    obtain ⟨X1, P', K', r1, r2, r3, r4, r5, r6, r7⟩ := t_line (fu := fu) (M := M) (b := 1605) (q := 1 + 4 * i) (a := a) h hM (by omega) hB hU hR i1 i2 (by omega) hLk hf w5 w1 (by omega) w0 w2 w3 w4 p3 p2 (by omega) h6
    have e3 : wkN C R a W V D (i + 1) = fndW true C (didT C R a true (wkN C R a W V D i) (W i) (V i 0) (V i 1) (i3 g)).2 := by rw [← w6]; rfl
    have r6' : InE (wkN C R a W V D (i + 1)) P' K' := by rw [e3]; exact (InE_fnd r6 true).1
    have eP2 : wkP C R a W V D (i + 1) = P' := (InE_P r6').symm
    have ed : dcB C R a W V D i = (didT C R a true (wkN C R a W V D i) (W i) (V i 0) (V i 1) (i3 g)).1 := by unfold dcB; rw [w6]
    obtain ⟨Z, s1, s2⟩ := ih (i + 1) l X1 (by omega) (by omega) r3 (Fm_rule r4 hU) (Wk_fm hW (fun k => fm92 r4)) (by rw [e3]; exact Rel_lo r2 (fun j k hj => fndW_lo (by omega))) (by rw [e3]; exact fun e => Lk_cg (r5 e) (fndW_lo (by omega)) (fndW_lo (by omega))) (by rw [eP2]; exact r7)
    refine ⟨Z, ?_, Fm_tr r4 s2⟩
    have ei : (1 : Int32) + 4 * i3 i = i3 (1 + 4 * i) := by rw [show (4 : Int32) = i3 4 from rfl, i3_mul, show (1 : Int32) = i3 1 from rfl, i3_add]
    rw [← s1]
    conv => lhs; unfold L_X12_judged_28
    rw [gR_mmb, l12_0_14 h]
    simp only [Option.bind_some, gN_mmb]
    rw [n20_92 h, x0, gd_t, x0', m_92, e0, if_neg (fun q => by have := (i3_le (by omega) (by omega)).mp q; omega), ei, show F_X12_doesLine fu 0 1605 (i3 (1 + 4 * i)) (mmb Y M) = _ from r1, ← ed, fwF_s]
    simp only [Option.bind_some, bz_0]
    cases dcB C R a W V D i with
    | true => rw [if_pos (by decide), if_pos rfl, i3_add1]
    | false =>
      rw [if_neg (fun q => q rfl)]
      by_cases q : 0 ≤ fwF (dcB C R a W V D) i
      · rw [if_pos q, if_pos q, i3_add1]
        rfl
      · rw [if_neg q, if_neg q, i3_add1]
        rfl
theorem op_judged (hS : SimP C R a w n W V B M) (hf : 1100 < fu) : Both C R a w n W V B (F_X11_judged fu 0 x) (F_X12_judged fu 0 x) M := by
  obtain ⟨s1, s2, s3, s4, s5, s6, s7, s8, s9, s10, s11, s12, s13, s14, s15⟩ := id hS
  have h := s1.1
  by_cases P : x < 0 ∨ 3 < x
  · refine op_same (r := -2) hS ?_ (fun M1 h1 => ⟨_, ?_, FmS_0 (v := 0) s8⟩)
    · unfold F_X11_judged
      by_cases c1 : x < 0
      · rw [if_pos c1]
      · rw [if_neg c1, if_neg (Int32.not_le.mpr (P.resolve_left c1))]
    · unfold F_X12_judged
      simp only [sI_th]
      rw [wi_f P]
      rfl
  · have c1 : ¬ x < 0 := fun q => P (Or.inl q)
    have c2 : ¬ 3 < x := fun q => P (Or.inr q)
    obtain ⟨N, D, e1, e2⟩ := c_run (fu := fu) hS hf
    obtain ⟨⟨g1, g2, g3, g4, g5, g6⟩, g7, g8, ⟨q1, q2, q3, q4, q5, q6⟩, g9⟩ := id e2
    obtain ⟨K, hK1, hK2⟩ := JB_E s2 s9.2.1 e2
    have hm : N = mmb (tX M) N := by rw [← g2]; exact (mmb_tX _).symm
    have hX0 : Fm 1605 (up (tX M) 0 0 0) (stX (up (tX M) 0 0 0) 1605) := Fm_st (by omega)
    have h22 : stX (up (tX M) 0 0 0) 1605 0 22 = -1 := by unfold stX; rw [if_pos ⟨rfl, rfl⟩]
    have h11 : stX (up (tX M) 0 0 0) 1605 95 1611 = i3 (wkP C R a W V D 0) := by
      have e0 : wkP C R a W V D 0 = 0 := (InE_P (InE_stF (C := C) (D := D) g7)).symm
      rw [e0]
      unfold stX
      rw [if_neg (by omega), if_neg (by omega), if_neg (by omega), if_pos ⟨rfl, by omega, by omega⟩]
      rfl
    obtain ⟨Z, z1, z2⟩ := t_judged28 (fu := fu) (a := a) (R := R) (D := D) (z := x) (M := N) g1 s2 hf s9.2.1 g7 n 0 fu (stX (up (tX M) 0 0 0) 1605) (by omega) (by have := s9.2.1; omega) (MCfg_90 (up0_M s4) (fun k => hX0.1 90 k (by omega) (by decide) (by decide) (by decide) (by decide))) (Fm_rule hX0 (RuleAs_fm s5 (up_ne (by omega)) (fun k => up_ne (by omega)))) (Wk_fm s10 (fun k => (fm92 hX0).trans (up_ne (by omega))))
      (Rel_lo (Rel_start (D := D) s2) (fun j k hj => (show startF C D j k = startT C D j k from fndW_lo (by omega)))) (fun e => by rw [h22] at e; exact absurd e (neg_i3 (by omega))) h11
    have hF : Fm 1605 (up (tX M) 0 0 0) Z := Fm_tr hX0 z2
    refine ⟨(if x = 0 then fwF (dcB C R a W V D) n else if x = 1 then i3 (wkP C R a W V D n) else if x = 2 then wkN C R a W V D n 15 3 else wkN C R a W V D n 14 3), N, mmb Z N, ?_, ?_, Sim_jd hS e2 g1 rfl (fun _ _ _ => rfl) (fun _ _ _ => rfl) ⟨fun j k p1 p2 => ?_, fun k hk => ?_⟩ (fun q => ?_) ?_⟩
    · unfold F_X11_judged
      rw [if_neg c1, if_pos (Int32.not_lt.mp c2), l11_0_9 h, s1.2.2.2.1, s1.2.2.2.2.2.1]
      simp only [Option.bind_some]
      rw [e1]
      simp only [Option.bind_some]
      rw [l11_0_9 g1]
      simp only [Option.bind_some]
      unfold F_X5_tell
      by_cases z0 : x = 0
      · rw [if_pos z0, if_pos z0, q1]
        rfl
      rw [if_neg z0, if_neg z0]
      by_cases z1 : x = 1
      · rw [if_pos z1, if_pos z1, l5_0_0 g1]
        simp only [Option.bind_some]
        rw [tb_24, hK1.2.2.1]
      rw [if_neg z1, if_neg z1]
      by_cases z2 : x = 2
      · rw [if_pos z2, if_pos z2, l5_0_3 g1]
        simp only [Option.bind_some]
        rw [l2_0 g1 (by omega)]
        simp only [Option.bind_some]
        rw [← q5, tb_r (by omega)]
        rfl
      · rw [if_neg z2, if_neg z2, l5_0_3 g1]
        simp only [Option.bind_some]
        rw [← q6, tb_r (by omega)]
        rfl
    · rw [hm]
      conv => rhs; rw [← hm]
      unfold F_X12_judged
      simp only [sI_th]
      rw [wi_t c1 c2]
      simp only [Option.bind_some]
      rw [if_pos (by decide), show F_X12_starts fu 0 1605 (mmb (up (tX M) 0 0 0) N) = _ from t_starts (b := 1605) g1 (by omega) (by omega)]
      simp only [Option.bind_some]
      exact z1
    · rw [hF.1 j k (by omega) (by omega) (by omega) (by omega) (by omega), up_ne (by omega)]
    · rw [hF.2.1 k (by omega), up_ne (by omega)]
    · obtain ⟨y1, y2, y3⟩ := hF.2.2 0 (by omega) (by omega) q
      rw [up_ne (by omega)] at y1 y2 y3
      have := s8 y1
      unfold Lk at this ⊢
      rw [y2, y3]
      exact this
    · rw [hF.1 0 26 (by omega) (by omega) (by omega) (by omega) (by omega), up_ne (by omega)]
      rcases g9 with g9 | ⟨g9, r1, r2, r3⟩
      · exact Or.inl g9
      · exact Or.inr ⟨g9, fun j hj => (hF.1 97 j (by omega) (by omega) (by omega) (by omega) (by omega)).trans ((up_ne (by omega)).trans (r1 j hj)), r2, r3⟩
end
