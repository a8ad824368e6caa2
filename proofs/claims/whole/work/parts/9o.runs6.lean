/-! ===== runs: the work, noted by the reference ===== -/
section
variable {M : xM} {D E X Y Z T N X' E' E0 Tc : xT} {C : xC} {R G G' : Nat → Int32} {fu b d L L' s o t k n m i j p q f l w nb nw a r g c e B K P Q : Nat} {x y z v u : Int32} {nt : Bool} {W : Nat → Nat} {V : Nat → Nat → Int32}
theorem wkP_le (hB : CB C) (hn : n ≤ 24) (hE : InE (startT C D) 0 0) : wkP C R a W V D n ≤ 12 * n ∧ ∃ K, InE (wkN C R a W V D n) (wkP C R a W V D n) K := by
  obtain ⟨P, K, p1, p2, p3⟩ := wk_notes (R := R) (a := a) (W := W) (V := V) hB (Inv_startF (C := C) (D := D) hB) (InV_startF hB) (by omega) stF_142 (InE_stF hE) n hn
  have eP : wkP C R a W V D n = P := (InE_P p2).symm
  rw [eP]
  exact ⟨p1, K, p2⟩
theorem t_runs (h : Lay M) (hB : CB C) (hf : 1100 < fu) (hW : WkAs n W V X) (hM : MCfg C X) (hU : RuleAs C R X) (hE : InE (startT C D) 0 0) (h0 : X 0 26 = 0) :
    ∃ X', F_X12_runs fu 0 (mmb X M) = some (mmb X' (endM (fun c => dg C (mountT (cutD C R a W V D N n c) (C 0 0) (C 0 1))) 1 (wkP C R a W V D n) (ahM (wkS C R a W V D) (n + 1) M))) ∧
      MCfg C X' ∧ RuleAs C R X' ∧ WkAs n W V X' ∧ (∀ j, j ≤ n → X' 97 j = i3 (wkP C R a W V D j)) ∧ X' 0 26 = 1 ∧ (∀ j k, (j ≠ 0 ∨ k < 20 ∨ 22 < k) → j ≠ 93 → j ≠ 94 → j ≠ 95 → j ≠ 96 → j ≠ 97 → X' j k = up X 0 26 1 j k) ∧ (∀ k, k < 1605 → X' 95 k = X 95 k) ∧
      (∀ b', b' < 1605 → X' 0 22 = i3 b' → X 0 22 = i3 b' ∧ X' 0 20 = X 0 20 ∧ X' 0 21 = X 0 21) := by
  have hn := hW.2.1
  have hF0 : Fm 1605 (up X 0 26 1) (stX (up X 0 26 1) 1605) := Fm_st (by omega)
  have hM0 : MCfg C (up X 0 26 1) := MCfg_90 hM (fun k => up_ne (by omega))
  have hU0 : RuleAs C R (up X 0 26 1) := RuleAs_fm hU (up_ne (by omega)) (fun k => up_ne (by omega))
  have hW0 : WkAs n W V (up X 0 26 1) := Wk_fm hW (fun k => up_ne (by omega))
  have hbase : R22 C R a n W V D (up X 0 26 1) 0 (up X 0 26 1) := ⟨hM0, hU0, hW0, fun j hj => absurd hj (Nat.not_lt_zero _), fun _ _ _ _ _ _ _ _ => rfl, fun _ _ => rfl, fun _ _ q => ⟨q, rfl, rfl⟩⟩
  have hS0 := R22_fm hbase (Nat.le_refl _) hF0
  have hP0 : wkP C R a W V D 0 = 0 := (InE_P (InE_stF hE)).symm
  obtain ⟨fu', rfl⟩ : ∃ k, fu = k + 1 := ⟨fu - 1, by omega⟩
  obtain ⟨Z, k1, k2⟩ := t_runs22 (fu := fu' + 1) (a := a) (R := R) (D := D) (X := up X 0 26 1) hB hf hn hE n 0 fu' _ M h (by omega) (by omega) hS0 (Rel_lo (Rel_start (D := D) hB) (fun j k hj => (show startF C D j k = startT C D j k from fndW_lo (by omega)))) (fun e => by
    have : stX (up X 0 26 1) 1605 0 22 = -1 := by unfold stX; rw [if_pos ⟨rfl, rfl⟩]
    rw [this] at e
    exact absurd e (neg_i3 (by omega))) (by
    rw [hP0]
    unfold stX
    rw [if_neg (by omega), if_neg (by omega), if_neg (by omega), if_pos (by omega)]; rfl)
  obtain ⟨hPl, K, hEn⟩ := wkP_le (R := R) (a := a) (W := W) (V := V) hB hn hE
  obtain ⟨X', r1, r2, r3, r4, r5⟩ := t_runs112 (fu := fu' + 1) (n := n) (W := W) (V := V) (a := a) (R := R) (D := D) (N := N) (P := wkP C R a W V D n) hB hf (by omega) (wkP C R a W V D n) 1 (fu' + 1) Z (ahM (wkS C R a W V D) (n + 1) M) (ahM_lay h _) (by omega) (by omega) (Nat.le_refl _) k2.2.2.1 k2.1 k2.2.1 (k2.2.2.2.1 n (by omega))
  obtain ⟨q1, q2, q3, q4, q5, q6, q7⟩ := k2
  refine ⟨X', ?_, r2, r3, r4, fun j hj => (r5.1 97 j (by omega) (by decide) (by decide) (by decide) (by decide)).trans (q4 j (by omega)), ?_, fun j k w1 w2 w3 w4 w5 w6 => (r5.1 j k w1 w2 w3 w4 w5).trans (q5 j k w1 w2 w3 w4 w5 w6), fun k hk => ((r5.2.1 k (by omega)).trans (q6 k hk)).trans (up_ne (by omega)), fun b' hb' e => ?_⟩
  · unfold F_X12_runs
    rw [m_0, h0, if_pos rfl, xb_t, gd_t]
    simp only [p_0]
    rw [show (1605 : Int32) = i3 1605 from rfl, t_starts h (by omega) (by omega)]
    simp only [Option.bind_some]
    exact k1.trans r1
  · exact ((r5.1 0 26 (by omega) (by decide) (by decide) (by decide) (by decide)).trans (q5 0 26 (by omega) (by decide) (by decide) (by decide) (by decide) (by decide))).trans up_eq
  · obtain ⟨a1, a2, a3⟩ := r5.2.2 b' (by omega) (by omega) e
    obtain ⟨c1, c2, c3⟩ := q7 b' hb' a1
    rw [up_ne (by omega)] at c1 c2 c3
    exact ⟨c1, a2.trans c2, a3.trans c3⟩
end
