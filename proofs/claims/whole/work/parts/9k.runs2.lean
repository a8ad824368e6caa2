/-! ===== the work cut at each put, in the reference ===== -/
section
variable {M : xM} {D E X Y Z T N X' E' E0 Tc : xT} {C : xC} {R G G' : Nat → Int32} {fu b d L L' s o t k n m i j p q f l w nb nw a r g c e B K P Q : Nat} {x y z v u : Int32} {nt : Bool} {W : Nat → Nat} {V : Nat → Nat → Int32} {kk : Nat → Int32 → xM → Option xM}
theorem t_putsAll (h : Lay M) (hW : WkAs n W V X) (h7 : X 97 n = v) : F_X12_putsOfAll fu 0 (mmb X M) = some (v, mmb X M) := by
  have e0 := hW.1
  have hn := hW.2.1
  unfold F_X12_putsOfAll
  simp (disch := first | assumption | omega) only [l12_0_1, l12_0_4, l12_0_5, l12_0_6, l12_0_9, l12_0_10, l12_0_11, l12_0_13, l12_0_14, l12_0_15, l12_0_16, l12_0_17, l12_0_18, l12_0_19, l12_0_23, l12_0_24, l12_0_25, l12_0_27, n20_83, n20_84, n20_85, n20_86, n20_87, n20_88, n20_89, n20_90, n20_91, n20_92, n20_93, n20_94, n20_95, n20_96, n20_97, n20_98, n21_2, n21_3, n21_4, n21_5, n21_6, n22_20, m_0, m_1, m_87, m_88, m_89, m_90, m_91, m_92, m_93, m_94, m_95, m_96, m_97, m_98, p_0, p_1, p_87, p_88, p_89, p_90, p_91, p_92, p_93, p_94, p_95, p_96, p_97, p_98, gR_mmb, gN_mmb, gL_mmb, i3_add1, i3_add, i3_mul, i3_addl, i3_mull, i3_ladd, i3_lmul, i3_div4, i3_le, i3_lt, i3_eq, i3_lel, i3_lle, i3_ltl, i3_llt, i3_eql, i3_leq, i3_nl, i3_0l, i3_nn, n1_lt, n1_le, xi_i3, xin_i3, xi_lit, xin_lit, xb0, xb1, gd_t, nz4, Option.bind_some, gR_emb, gN_emb, gL_emb, ↓reduceIte, if_true, if_false, not_true_eq_false, not_false_eq_true, eq_self, Nat.not_lt_zero, Nat.zero_le, true_or, or_true, false_or, or_false, true_and, and_true, false_and, and_false, e0, h7]
/-- what is left of the work cut at put c -/
def cutD (C : xC) (R : Nat → Int32) (a : Nat) (W : Nat → Nat) (V : Nat → Nat → Int32) (D N : xT) (n c : Nat) : xT := wkF C R a false W V (cutAs c (startT C D) N) n
theorem t_put1 (h : Lay M) (hB : CB C) (hf : 1100 < fu) (hc : 1 ≤ c) (hc2 : c ≤ 288) (hW : WkAs n W V X) (hM : MCfg C X) (hU : RuleAs C R X) (h7 : X 97 n = i3 P) (hP : c ≤ P) (hP2 : P ≤ 288) :
    ∃ X', L_X12_runs_112 fu (l + 1) 0 (i3 c) (mmb X M) = L_X12_runs_112 fu l 0 (i3 (c + 1)) (mmb X' (packM M 5 (3 * c) (dg C (mountT (cutD C R a W V D N n c) (C 0 0) (C 0 1))) 3)) ∧ MCfg C X' ∧ RuleAs C R X' ∧ WkAs n W V X' ∧ Fm 1605 X X' := by
  have hIs := Inv_cuA (c := c) (N := N) (Inv_start (C := C) (D := D) hB) (by omega)
  have hVs : InV C (cutAs c (startT C D) N) := InV_cuA InV_start
  have hR0 : Rel C 1605 (cutAs c (startT C D) N) (up (stX X 1605) 95 1608 (i3 c)) := Rel_cut (Rel_start hB)
  have hF0 : Fm 1605 X (up (stX X 1605) 95 1608 (i3 c)) := Fm_tr (Fm_st (by omega)) (Fm_95 (fun j k hj => up_ne (by omega)) (fun k hk => up_ne (by omega)))
  have hL0 : up (stX X 1605) 95 1608 (i3 c) 0 22 = i3 1605 → Lk (wkF C R a false W V (cutAs c (startT C D) N) 0) (up (stX X 1605) 95 1608 (i3 c)) := by
    intro e
    rw [up_ne (by omega)] at e
    have : stX X 1605 0 22 = -1 := by unfold stX; rw [if_pos ⟨rfl, rfl⟩]
    rw [this] at e
    exact absurd e (neg_i3 (by omega))
  have hM0 : MCfg C (up (stX X 1605) 95 1608 (i3 c)) := MCfg_90 hM (fun k => hF0.1 90 k (by omega) (by decide) (by decide) (by decide) (by decide))
  obtain ⟨X1, k1, k2, k3, k4, k5, k6, k7⟩ := t_lines (kk := L_X12_runs_112 fu l) (z := i3 c) (fu := fu) (M := M) (a := a) (R := R) (L := 0) (V := V) h hB (by omega) hf (by omega) hIs hVs n 0 fu _ (by omega) (by have := hW.2.1; omega) (Wk_fm hW (fun k => fm92 hF0)) hM0 (Fm_rule hF0 hU) hR0 hL0
  obtain ⟨i1, i2⟩ := wk_Inv (R := R) (a := a) (W := W) (V := V) hB hIs hVs (by omega) false n hW.2.1
  have hn := hW.2.1
  obtain ⟨X2, m1, m2, m3, m4, m5, m6⟩ := t_mounts (fu := fu) (M := M) (b := 1605) h k2 (by omega) hB k5 i1 k6 hf (by omega) false
  have hIm := Inv_mount hB i1
  have hpk := t_packs (fu := fu) (M := M) (t := 5) (q := 3 * c) (b := 1605) h m3 (by omega) hB m2 hIm.2.2.2.2.1 hIm.2.2.1 (by omega) (by omega) (by rw [n21_5 h]; omega) (by rw [n21_5 h]; omega)
  refine ⟨X2, ?_, m3, Fm_rule m4 k3, Wk_fm k4 (fun k => fm92 m4), Fm_tr (Fm_tr hF0 k7) m4⟩
  conv => lhs; unfold L_X12_runs_112
  rw [t_putsAll h hW h7]
  simp only [Option.bind_some]
  rw [if_neg (fun q => by have := (i3_lt (by omega) (by omega)).mp q; omega), show (1605 : Int32) = i3 1605 from rfl, t_starts h (by omega) (by omega)]
  simp only [Option.bind_some]
  rw [gr17 h]
  simp only [Option.bind_some]
  rw [show (1608 : Int32) = i3 1608 from rfl, gd95 h (by omega), xi_i3 (by omega)]
  simp only [p_95]
  rw [show (0 : Int32) = i3 0 from rfl]
  rw [k1, show (1605 : Int32) = i3 1605 from rfl, m1]
  simp only [Option.bind_some, gR_mmb]
  rw [l12_0_23 h, show (3 : Int32) * i3 c = i3 (3 * c) by rw [show (3 : Int32) = i3 3 from rfl, i3_mul], hpk]
  simp only [Option.bind_some]
  rw [i3_add1]
  rfl
end
