/-! ===== the work cut at one put, in the reference ===== -/
/-- the lines as the reference holds them -/
def WkAs (n : Nat) (W : Nat → Nat) (V : Nat → Nat → Int32) (X : xT) : Prop := X 92 0 = i3 n ∧ n ≤ 24 ∧ ∀ i, i < n → X 92 (1 + 4 * i) = i3 (W i) ∧ W i < 6 ∧ X 92 (1 + 4 * i + 1) = V i 0 ∧ X 92 (1 + 4 * i + 2) = V i 1 ∧ X 92 (1 + 4 * i + 3) = V i 2 ∧ ∃ g, g ≤ 255 ∧ V i 2 = i3 g
section
variable {M : xM} {D E X Y Z T N X' E' E0 Tc : xT} {C : xC} {R G G' : Nat → Int32} {fu b d L L' s o t k n m i j p q f l w nb nw a r g c e B K P Q : Nat} {x y z v u : Int32} {nt : Bool} {W : Nat → Nat} {V : Nat → Nat → Int32} {kk : Nat → Int32 → xM → Option xM}
theorem Wk_fm (h : WkAs n W V X) (e : ∀ k, X' 92 k = X 92 k) : WkAs n W V X' := by
  unfold WkAs at h ⊢
  simp only [e]
  exact h
theorem Rel_cut (hR : Rel C b D X) : Rel C b (cutAs c D N) (up X 95 (b + 3) (i3 c)) := by
  obtain ⟨g0, g1, g2, g3, g4, g5, g6, g7, g8, g9⟩ := hR
  have r : ∀ j k, (j < 14 ∨ j = 15) → cutAs c D N j k = D j k := fun j k h => cuA_r (by omega) (by omega)
  refine Rel_gen ⟨g0, g1, g2, g3, g4, g5, g6, g7, g8, g9⟩ ?_ ?_ ?_ ?_ ?_ ?_ ?_ (fun k hk => ?_) (fun k hk => ?_) (fun j k h1 h2 => r j k (by omega)) (fun k hk => up_ne (by omega))
  · rw [up_ne (by omega), cuA_r (by omega) (by omega)]; exact g0
  · rw [up_ne (by omega), r _ _ (by omega)]; exact g1
  · rw [up_ne (by omega), cuA_r (by omega) (by omega)]; exact g2
  · rw [up_eq, cuA_2]
  · rw [up_ne (by omega)]; exact g4
  · rw [up_ne (by omega)]; exact g5
  · rw [up_ne (by omega), cuA_r (by omega) (by omega)]; exact g6
  · rw [up_ne (by omega), r _ _ (by omega)]; exact g7 k hk
  · rw [up_ne (by omega), r _ _ (by omega)]; exact g8 k hk
theorem Fm_st (hb : b ≤ 2140) : Fm b X (stX X b) := by
  refine ⟨fun j k h1 h2 h3 h4 h5 => ?_, fun k hk => ?_, fun b' hb' hne e => ?_⟩
  · unfold stX; rw [if_neg (by omega), if_neg (by omega), if_neg (by omega), if_neg (by omega)]
  · unfold stX; rw [if_neg (by omega), if_neg (by omega), if_neg (by omega), if_neg (by omega)]
  · have : stX X b 0 22 = -1 := by unfold stX; rw [if_pos ⟨rfl, rfl⟩]
    rw [this] at e; exact absurd e (neg_i3 (by omega))
theorem t_lines (h : Lay M) (hB : CB C) (hL : L + 200 < 1000000) (hf : 1100 < fu) (hf2 : L + 300 < fu) (hIc : Inv C L D) (hVc : InV C D) : ∀ m i l X, i + m = n → m < l → WkAs n W V X → MCfg C X → RuleAs C R X → Rel C 1605 (wkF C R a false W V D i) X → (X 0 22 = i3 1605 → Lk (wkF C R a false W V D i) X) →
    ∃ X', L_X12_runs_138 fu kk l 0 z (i3 i) (mmb X M) = (F_X12_mounts fu 0 1605 (mmb X' M)).bind (fun p_2 => (F_X12_packs fu 0 1605 (gR p_2.2 12 0 23) (3 * z) p_2.2).bind fun p_3 => kk 0 (z + 1) p_3) ∧
      MCfg C X' ∧ RuleAs C R X' ∧ WkAs n W V X' ∧ Rel C 1605 (wkF C R a false W V D n) X' ∧ (X' 0 22 = i3 1605 → Lk (wkF C R a false W V D n) X') ∧ Fm 1605 X X' := by
  intro m
  induction m with
  | zero =>
    intro i l X hi hl hW hM hU hR hLk
    obtain ⟨l, rfl⟩ : ∃ k, l = k + 1 := ⟨l - 1, by omega⟩
    have e : i = n := by omega
    subst e
    refine ⟨X, ?_, hM, hU, hW, hR, hLk, Fm_rf⟩
    conv => lhs; unfold L_X12_runs_138
    have e0 := hW.1
    have hn := hW.2.1
    simp (disch := first | assumption | omega) only [l12_0_1, l12_0_4, l12_0_5, l12_0_6, l12_0_9, l12_0_10, l12_0_11, l12_0_13, l12_0_14, l12_0_15, l12_0_16, l12_0_17, l12_0_18, l12_0_19, l12_0_23, l12_0_24, l12_0_25, l12_0_27, n20_83, n20_84, n20_85, n20_86, n20_87, n20_88, n20_89, n20_90, n20_91, n20_92, n20_93, n20_94, n20_95, n20_96, n20_97, n20_98, n21_2, n21_3, n21_4, n21_5, n21_6, n22_20, m_0, m_1, m_87, m_88, m_89, m_90, m_91, m_92, m_93, m_94, m_95, m_96, m_97, m_98, p_0, p_1, p_87, p_88, p_89, p_90, p_91, p_92, p_93, p_94, p_95, p_96, p_97, p_98, gR_mmb, gN_mmb, gL_mmb, i3_add1, i3_add, i3_mul, i3_addl, i3_mull, i3_ladd, i3_lmul, i3_div4, i3_le, i3_lt, i3_eq, i3_lel, i3_lle, i3_ltl, i3_llt, i3_eql, i3_leq, i3_nl, i3_0l, i3_nn, n1_lt, n1_le, xi_i3, xin_i3, xi_lit, xin_lit, xb0, xb1, gd_t, nz4, Option.bind_some, gR_emb, gN_emb, gL_emb, ↓reduceIte, if_true, if_false, not_true_eq_false, not_false_eq_true, eq_self, Nat.not_lt_zero, Nat.zero_le, true_or, or_true, false_or, or_false, true_and, and_true, false_and, and_false, e0]
    rw [if_pos (Nat.le_refl _)]
  | succ m ih =>
    intro i l X hi hl hW hM hU hR hLk
    obtain ⟨l, rfl⟩ : ∃ k, l = k + 1 := ⟨l - 1, by omega⟩
    have e0 := hW.1
    have hn := hW.2.1
    obtain ⟨w0, w1, w2, w3, w4, g, w5, w6⟩ := hW.2.2 i (by omega)
    obtain ⟨i1, i2⟩ := wk_Inv (R := R) (a := a) (W := W) (V := V) hB hIc hVc hL false i (by omega)
    rw [w6] at w4
    obtain ⟨X1, k1, p1, p2, p3, p4, p5⟩ := t_does (fu := fu) (M := M) (a := a) (R := R) (b := 1605) (q := 1 + 4 * i) h hM (by omega) hB hU hR i1 i2 (by omega) hLk hf w5 w1 (by omega) w0 w2 w3 w4 false
    have e3 : wkF C R a false W V D (i + 1) = (didT C R a false (wkF C R a false W V D i) (W i) (V i 0) (V i 1) (i3 g)).2 := by rw [← w6]; rfl
    rw [← e3] at p1 p4
    obtain ⟨X2, r1, r2, r3, r4, r5, r6, r7⟩ := ih (i + 1) l X1 (by omega) (by omega) (Wk_fm hW (fun k => fm92 p3)) p2 (Fm_rule p3 hU) p1 p4
    refine ⟨X2, ?_, r2, r3, r4, r5, r6, Fm_tr p3 r7⟩
    rw [← r1]
    conv => lhs; unfold L_X12_runs_138
    have ei : (1 : Int32) + 4 * i3 i = i3 (1 + 4 * i) := by rw [show (4 : Int32) = i3 4 from rfl, i3_mul, show (1 : Int32) = i3 1 from rfl, i3_add]
    simp only [ei]
    simp (disch := first | assumption | omega) only [l12_0_1, l12_0_4, l12_0_5, l12_0_6, l12_0_9, l12_0_10, l12_0_11, l12_0_13, l12_0_14, l12_0_15, l12_0_16, l12_0_17, l12_0_18, l12_0_19, l12_0_23, l12_0_24, l12_0_25, l12_0_27, n20_83, n20_84, n20_85, n20_86, n20_87, n20_88, n20_89, n20_90, n20_91, n20_92, n20_93, n20_94, n20_95, n20_96, n20_97, n20_98, n21_2, n21_3, n21_4, n21_5, n21_6, n22_20, m_0, m_1, m_87, m_88, m_89, m_90, m_91, m_92, m_93, m_94, m_95, m_96, m_97, m_98, p_0, p_1, p_87, p_88, p_89, p_90, p_91, p_92, p_93, p_94, p_95, p_96, p_97, p_98, gR_mmb, gN_mmb, gL_mmb, i3_add1, i3_add, i3_mul, i3_addl, i3_mull, i3_ladd, i3_lmul, i3_div4, i3_le, i3_lt, i3_eq, i3_lel, i3_lle, i3_ltl, i3_llt, i3_eql, i3_leq, i3_nl, i3_0l, i3_nn, n1_lt, n1_le, xi_i3, xin_i3, xi_lit, xin_lit, xb0, xb1, gd_t, nz4, Option.bind_some, gR_emb, gN_emb, gL_emb, ↓reduceIte, if_true, if_false, not_true_eq_false, not_false_eq_true, eq_self, Nat.not_lt_zero, Nat.zero_le, true_or, or_true, false_or, or_false, true_and, and_true, false_and, and_false, e0]
    rw [if_neg (by omega), show (1605 : Int32) = i3 1605 from rfl, k1]
    simp only [Option.bind_some]
end
