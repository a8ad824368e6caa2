/-! ===== lives in the reference; hot: both sides ===== -/
/-- a dirty node of data of file f -/
def drB (D : xT) (f s : Nat) : Bool := decide (D 2 s = 1) && (decide (D 4 s = i3 f) && ! liveB D s)
/-- the file of the most dirty ones, of the first k -/
def hotF (g : Nat → Nat) : Nat → Int32 × Nat
  | 0 => (-1, 0)
  | k + 1 => if (hotF g k).2 < g k then (i3 k, g k) else hotF g k
section
variable {M M' : xM} {D E X X' T' : xT} {C : xC} {R Bv S : Nat → Int32} {d e fu n m i j o p q a k l s t w K P L L' b B B' f : Nat} {v x y r z : Int32} {W A c : Nat → Nat} {V : Nat → Nat → Int32} {kk : Nat → Int32 → Int32 → Int32 → xM → Option (Int32 × xM)}
theorem rk_tot (hN : InN C D) (h : slL C D i = some s) : i < tot C := by
  obtain ⟨s1, s2, s3⟩ := sl_some h
  have hc := cnt_or (p1 := fun o => liveB D o && decide (sq D o < sq D s)) (p2 := fun o => decide (o = s)) (p3 := fun o => (liveB D o && decide (sq D o < sq D s)) || decide (o = s)) (fun o => rfl) (fun o => by
    by_cases c : o = s
    · rw [c, decide_eq_false (Nat.lt_irrefl _), Bool.and_false]; rfl
    · rw [decide_eq_false c, Bool.and_false]) (tot C)
  have h1 : cnt (fun o => decide (o = s)) (tot C) = 1 := cnt_one s1 (decide_eq_true rfl) (fun o ho hne => decide_eq_false hne)
  have h2 := cnt_le (fun o => (liveB D o && decide (sq D o < sq D s)) || decide (o = s)) (tot C)
  have h3 : rkN C D s = cnt (fun o => liveB D o && decide (sq D o < sq D s)) (tot C) := rfl
  omega
/-- what the reference leaves behind lives -/
def lvA (o : Option Nat) (X : xT) (M : xM) : Option (Int32 × xM) := match o with
  | some s => some (i3 s, mmb (up X 0 0 0) M)
  | none => some (0, mmb (up X 0 0 1) M)
theorem t_lives47 (h : ∀ s, o = s → s < 36) : J_X12_lives_47 fu 0 (i3 o) (mmb X M) = lvA (some o) X M := by
  have := h o rfl
  unfold J_X12_lives_47 J_X12_lives_57
  rw [if_pos (ge0 (by omega)), if_pos (ge0 (by omega)), p_0]
  rfl
theorem t_lives47n (hx : x < 0) : J_X12_lives_47 fu 0 x (mmb X M) = lvA none X M := by
  unfold J_X12_lives_47 J_X12_lives_57
  have hn : ¬ (0 : Int32) ≤ x := Int32.not_le.mpr hx
  rw [if_neg hn, if_neg hn, p_0]
  rfl
theorem t_lives21 (h : Lay M) (hM : MCfg C X) (hB : CB C) (hR : Rel C 0 D X) (hI : Inv C L D) (hLk : Lk D X) (hi : i < 2147483648) (hf : 1100 < fu) : ∀ m k l, k ≤ i → tot C + 1 - k ≤ m → m < l →
    L_X12_lives_21 fu l 0 (i3 i) (on (slL C D k)) (i3 k) (mmb X M) = lvA (slL C D i) X M := by
  have h36 := tot36 hB
  intro m
  induction m with
  | zero =>
    intro k l hk hm hl
    obtain ⟨l, rfl⟩ : ∃ k, l = k + 1 := ⟨l - 1, by omega⟩
    conv => lhs; unfold L_X12_lives_21
    have hno : slL C D k = none := by
      cases e : slL C D k with
      | none => rfl
      | some s => have := rk_tot hI.2.2.1 e; omega
    rw [hno, sl_end hI.2.2.1 hno i hk]
    by_cases c : i ≤ k
    · rw [if_pos ((i3_le hi (by omega)).mpr c)]; exact t_lives47n (by decide)
    · rw [if_neg (fun q => c ((i3_le hi (by omega)).mp q)), if_pos (show on none < 0 from by decide)]; exact t_lives47n (by decide)
  | succ m ih =>
    intro k l hk hm hl
    obtain ⟨l, rfl⟩ : ∃ k, l = k + 1 := ⟨l - 1, by omega⟩
    conv => lhs; unfold L_X12_lives_21
    by_cases c : i ≤ k
    · have e : k = i := by omega
      subst e
      rw [if_pos (Int32.le_refl _)]
      cases e : slL C D k with
      | none => exact t_lives47n (by decide)
      | some s => exact t_lives47 (fun t q => by have := (sl_some e).1; omega)
    · rw [if_neg (fun q => c ((i3_le hi (by omega)).mp q))]
      cases e : slL C D k with
      | none =>
        rw [if_pos (show on none < 0 from by decide), sl_end hI.2.2.1 e i hk]
        exact t_lives47n (by decide)
      | some s =>
        obtain ⟨s1, s2, s3⟩ := sl_some e
        have hk2 := rk_tot hI.2.2.1 e
        have kn : F_X12_numberOf fu 0 0 (i3 s) (mmb X M) = some (i3 (sq D s), mmb X M) := by
          have := t_numberOf (fu := fu) (M := M) (b := 0) h (by omega) hB hR s1 (live_ne s2)
          rw [(node_seq (hI.2.2.1 s s1) (live_isN s2)).1] at this
          exact this
        have ka := t_liveAbove (fu := fu) (M := M) (n := sq D s) h hM hB hR hI hLk (xi_lt _) hf
        rw [nx_s hI.2.2.1 e] at ka
        rw [if_neg (show ¬ on (some s) < 0 from fun q => (i3_nl (a := s) (by omega)).mp q), show on (some s) = i3 s from rfl, kn]
        simp only [Option.bind_some]
        rw [ka]
        simp only [Option.bind_some]
        rw [i3_add1]
        exact ih (k + 1) l (by omega) (by omega) (by omega)
theorem t_lives (h : Lay M) (hM : MCfg C X) (hB : CB C) (hR : Rel C 0 D X) (hI : Inv C L D) (hLk : X 0 22 = i3 0 → Lk D X) (hf : 1100 < fu) : F_X12_lives fu 0 x (mmb X M) = lvA (slX C D x) (lkX X 0 (i3 (fsN D), i3 (wpN D))) M := by
  have h36 := tot36 hB
  have kl : F_X12_looks fu 0 0 (mmb X M) = some (mmb (lkX X 0 (i3 (fsN D), i3 (wpN D))) M) := t_looks (b := 0) h hM (by omega) hB hR hI.2.1 hI.2.2.1 hI.2.2.2.1 hI.2.2.2.2.2.1 hLk (by omega)
  have hX2 : Rel C 0 D (lkX X 0 (i3 (fsN D), i3 (wpN D))) := Rel_95 hR (fun k => lkX_o (Or.inl (by decide)))
  have hM2 : MCfg C (lkX X 0 (i3 (fsN D), i3 (wpN D))) := MCfg_90 hM (fun k => lkX_o (Or.inl (by decide)))
  unfold F_X12_lives
  rw [kl]
  simp only [Option.bind_some]
  by_cases c : (0 : Int32) ≤ x
  · obtain ⟨i, hi, rfl⟩ := i3_of c
    have ka := t_liveAbove (fu := fu) (M := M) (n := 0) h hM2 hB hX2 hI Lk_lkX (by omega) hf
    rw [nx_0 hI.2.2.1] at ka
    rw [if_pos c, show (0 : Int32) = i3 0 from rfl, ka]
    simp only [Option.bind_some]
    rw [slX_i3 hi hB]
    exact t_lives21 h hM2 hB hX2 hI Lk_lkX hi hf (tot C + 1) 0 fu (Nat.zero_le _) (Nat.le_refl _) (by omega)
  · have hx := Int32.not_le.mp c
    rw [if_neg c, slX_neg hx hB]
    obtain ⟨fu, rfl⟩ : ∃ k, fu = k + 1 := ⟨fu - 1, by omega⟩
    unfold L_X12_lives_21
    rw [if_pos (Int32.le_of_lt hx)]
    exact t_lives47n (by decide)
/-- lives: the class's slot (or none), and what the reference says and throws -/
theorem op_lives (hS : SimP C R a w n W V B M) (hf : 1100 < fu) :
    Both C R a w n W V B (F_X2_slotOfLive fu 0 x) (fun M => (F_X12_lives fu 0 x M).bind fun p => some (if gI p.2 12 0 0 = 0 then (if 0 ≤ p.1 then p.1 else -5) else if gI p.2 12 0 0 = 1 then -1 else -7, p.2)) M := by
  obtain ⟨s1, s2, s3, s4, s5, s6, ⟨L, l1, l2, l3, l4, l5, l6⟩, s8, s9, s10, s11, s12, s13, s14, s15⟩ := id hS
  have h := s1.1
  have h36 := tot36 s2
  have es := e_slotOfLive (fu := fu) (M := M) (D := tb 0 M) (x := x) h s2 l2 l3 hf
  rw [emb_tb] at es
  have hfm : ∀ v : Int32, FmS (tb 0 M) (tX M) (up (lkX (tX M) 0 (i3 (fsN (tb 0 M)), i3 (wpN (tb 0 M)))) 0 0 v) := by
    intro v
    refine ⟨fun j k hj => ?_, fun k hk => ?_, fun _ => ?_⟩
    · rw [up_ne (by omega), lkX_o (by omega)]
    · rw [up_ne (by omega), lkX_o (by omega)]
    · have := Lk_lkX (D := tb 0 M) (X := tX M) (b := 0)
      unfold Lk at this ⊢
      rw [up_ne (by omega), up_ne (by omega)]
      exact this
  refine op_read hS es Sv_survey (InV_survey s2 l3) KE_survey (fun M1 h1 => ?_)
  have kl := t_lives (fu := fu) (M := M1) (x := x) h1 s4 s2 l4 l2 s8 hf
  cases e : slX C (tb 0 M) x with
  | some s =>
    have hs := (lst_some.mp e).1
    rw [e] at kl
    refine ⟨_, ?_, hfm 0⟩
    show ((F_X12_lives fu 0 x (mmb (tX M) M1)).bind _) = _
    rw [show F_X12_lives fu 0 x (mmb (tX M) M1) = some (i3 s, mmb (up (lkX (tX M) 0 (i3 (fsN (tb 0 M)), i3 (wpN (tb 0 M)))) 0 0 0) M1) from kl]
    simp only [Option.bind_some, m_0, up_eq]
    rw [if_pos trivial, if_pos (ge0 (by omega))]
    rfl
  | none =>
    rw [e] at kl
    refine ⟨_, ?_, hfm 1⟩
    show ((F_X12_lives fu 0 x (mmb (tX M) M1)).bind _) = _
    rw [show F_X12_lives fu 0 x (mmb (tX M) M1) = some (0, mmb (up (lkX (tX M) 0 (i3 (fsN (tb 0 M)), i3 (wpN (tb 0 M)))) 0 0 1) M1) from kl]
    simp only [Option.bind_some, m_0, up_eq]
    rw [if_neg (by decide), if_pos trivial]
    rfl
/-! hot -/
theorem surv_surv : surveyT (surveyT D (C 0 0) (C 0 1)) (C 0 0) (C 0 1) = surveyT D (C 0 0) (C 0 1) := by
  have h : ¬ surveyT D (C 0 0) (C 0 1) 14 11 = 0 := by
    unfold surveyT
    by_cases c : D 14 11 = 0
    · rw [if_pos c]
      unfold survS
      rw [if_neg (by omega), if_neg (by omega), if_neg (by omega), if_neg (by omega), if_pos ⟨rfl, rfl⟩]
      decide
    · rw [if_neg c]; exact c
  conv => lhs; unfold surveyT
  rw [if_neg (show ¬ (if D 14 11 = 0 then survS D (C 0 1) (C 0 0 * C 0 1) else D) 14 11 = 0 from h)]
  rfl
theorem e_dirtyOf (h : Lay M) (hB : CB C) (hI : Inv C L D) (hV : InV C D) (hf : 1100 < fu) (hT : T' = D ∨ T' = surveyT D (C 0 0) (C 0 1)) : F_X2_dirtyDataOf fu 0 (i3 f) (emb 0 T' M) = some (i3 (cnt (drB D f) (tot C)), emb 0 (surveyT D (C 0 0) (C 0 1)) M) := by
  have h36 := tot36 hB
  have hO := (Okd_survey (d := 3) (nb := C 0 0) (nw := C 0 1) (Okd3 hI)).1
  have es : F_X2_survey fu 0 (emb 0 T' M) = some (emb 0 (surveyT D (C 0 0) (C 0 1)) M) := by
    rcases hT with q | q
    · rw [q]; exact e_survey (fu := fu) h (by omega) hI.1 (by omega)
    · rw [q]
      have := e_survey (fu := fu) (M := M) (d := 0) h (by omega) hO (by omega)
      rw [surv_surv] at this
      exact this
  have o5 : surveyT D (C 0 0) (C 0 1) 15 2 = i3 (tot C) := hO.2.2.2.2.1
  have h13 : ∀ s, s < tot C → surveyT D (C 0 0) (C 0 1) 13 s = bz (liveB D s) := fun s hs => by
    have := (survT_ok hB hV).2.2.1 s hs
    rw [live_surv] at this
    exact this
  have h2 : ∀ s, surveyT D (C 0 0) (C 0 1) 2 s = D 2 s := fun s => surveyT_lo (by omega)
  have h4 : ∀ s, surveyT D (C 0 0) (C 0 1) 4 s = D 4 s := fun s => surveyT_lo (by omega)
  unfold F_X2_dirtyDataOf
  rw [es]
  simp only [Option.bind_some]
  generalize surveyT D (C 0 0) (C 0 1) = E at *
  refine lpc (fun l i z => L_X2_dirtyDataOf_8 fu l 0 (i3 f) z (i3 i) (emb 0 E M)) (fun i => i3 (cnt (drB D f) i)) (tot C) _ ?_ ?_ fu 0 (by omega) (by omega)
  · intro l i hi
    show L_X2_dirtyDataOf_8 fu (l + 1) 0 (i3 f) (i3 (cnt (drB D f) i)) (i3 i) (emb 0 E M) = L_X2_dirtyDataOf_8 fu l 0 (i3 f) (i3 (cnt (drB D f) (i + 1))) (i3 (i + 1)) (emb 0 E M)
    have e13 := h13 i hi
    have e2 := h2 i
    have e4 := h4 i
    rw [cnt_s]
    conv => lhs; unfold L_X2_dirtyDataOf_8
    simp (disch := first | assumption | omega) only [l0_7, l0_8, l0_9, l0_10, l0_11, l0_12, l0_13, l0_14, l0_15, l2_0, l2_5, l2_6, l2_7, l2_8, l2_9, l2_12, l2_13, l7_4, l7_5, l7_6, l7_7, l8_0, l8_1, l8_2, l9_1, l9_2, l9_3, l9_4, l4_0_0, l4_0_1, l4_0_2, l4_0_3, l3_0_2, l3_0_3, l3_0_4, l3_0_5, l10_0_0, l1_0_1, l1_0_2, l1_0_3, l1_1_1, l1_1_2, l1_1_3, l1_2_1, l1_2_2, l1_2_3, l5_0_0, l5_0_2, l5_0_3, l5_0_4, l11_0_0, l11_0_5, l11_0_6, l11_0_7, l11_0_8, l11_0_9, l11_0_10, l11_0_11, l11_0_12, l11_0_13, l24_0_0, l24_0_1, l25_0_0, l25_0_1, l12_0_1, l12_0_4, l12_0_5, l12_0_6, l12_0_9, l12_0_10, l12_0_11, l12_0_13, l12_0_14, l12_0_15, l12_0_16, l12_0_17, l12_0_18, l12_0_19, l12_0_23, l12_0_24, l12_0_25, l12_0_27, n_a0, n_a1, n_a2, n_a3, n_a4, n_a5, n_a6, n_a7, n_a8, n_a9, n_a10, n_b0, n_b1, n_b2, n_p0, n_p1, n_p2, n_p3, n_p4, n_s0, n_s1, n_s2, n_s3, n_nm, n20_18, n20_19, n20_20, n20_21, n20_44, n20_45, n20_46, n20_47, n20_48, n20_49, n20_83, n20_84, n20_85, n20_86, n20_87, n20_88, n20_89, n20_90, n20_91, n20_92, n20_93, n20_94, n20_95, n20_96, n20_97, n20_98, n21_2, n21_3, n21_4, n21_5, n21_6, n22_6, n22_7, n22_17, n22_18, n22_19, n22_20, n23_0, n24_0, n25_0, r_a0, w_a0, r_a1, w_a1, r_a2, w_a2, r_a3, w_a3, r_a4, w_a4, r_a5, w_a5, r_a6, w_a6, r_a7, w_a7, r_a8, w_a8, r_a9, w_a9, r_a10, w_a10, r_b0, w_b0, r_b1, w_b1, r_b2, w_b2, r_d, w_d, r_c, w_c, r_e, w_e, r_t, w_t, r_f0, w_f0, r_f1, w_f1, r_f2, w_f2, r_f3, w_f3, r_e0, w_e0, r_e1, w_e1, r_e2, w_e2, r_o7, r_o8, r_o9, r_o10, r_o1, r_o5, r_o6, r_o11, r_o12, r_o21, r_o23, r_p0, r_p1, r_p2, r_s0, r_s1, r_s2, r_s3, i3_add1, i3_add, i3_mul, i3_addl, i3_mull, i3_ladd, i3_lmul, i3_div4, i3_le, i3_lt, i3_eq, i3_lel, i3_lle, i3_ltl, i3_llt, i3_eql, i3_leq, i3_nl, i3_0l, i3_nn, n1_lt, n1_le, xi_i3, xin_i3, xi_lit, xin_lit, xb0, xb1, gd_t, nz4, Option.bind_some, gR_emb, gN_emb, gL_emb, ↓reduceIte, if_true, if_false, not_true_eq_false, not_false_eq_true, eq_self, Nat.not_lt_zero, Nat.zero_le, true_or, or_true, false_or, or_false, true_and, and_true, false_and, and_false, o5, e13, e2, e4, bz_0]
    rw [if_neg (by omega)]
    unfold drB
    by_cases c1 : D 2 i = 1
    · rw [if_neg (fun q => q c1), decide_eq_true c1, Bool.true_and]
      by_cases c2 : D 4 i = i3 f
      · rw [if_neg (fun q => q c2), decide_eq_true c2, Bool.true_and]
        cases liveB D i with
        | true => rw [if_pos (by decide), if_neg (by decide)]
        | false => rw [if_neg (by decide), if_pos (by decide)]
      · rw [if_pos c2, decide_eq_false c2, Bool.false_and, if_neg (by decide)]
    · rw [if_pos c1, decide_eq_false c1, Bool.false_and, if_neg (by decide)]
  · intro l
    show L_X2_dirtyDataOf_8 fu (l + 1) 0 (i3 f) (i3 (cnt (drB D f) (tot C))) (i3 (tot C)) (emb 0 E M) = _
    conv => lhs; unfold L_X2_dirtyDataOf_8
    simp (disch := first | assumption | omega) only [l0_7, l0_8, l0_9, l0_10, l0_11, l0_12, l0_13, l0_14, l0_15, l2_0, l2_5, l2_6, l2_7, l2_8, l2_9, l2_12, l2_13, l7_4, l7_5, l7_6, l7_7, l8_0, l8_1, l8_2, l9_1, l9_2, l9_3, l9_4, l4_0_0, l4_0_1, l4_0_2, l4_0_3, l3_0_2, l3_0_3, l3_0_4, l3_0_5, l10_0_0, l1_0_1, l1_0_2, l1_0_3, l1_1_1, l1_1_2, l1_1_3, l1_2_1, l1_2_2, l1_2_3, l5_0_0, l5_0_2, l5_0_3, l5_0_4, l11_0_0, l11_0_5, l11_0_6, l11_0_7, l11_0_8, l11_0_9, l11_0_10, l11_0_11, l11_0_12, l11_0_13, l24_0_0, l24_0_1, l25_0_0, l25_0_1, l12_0_1, l12_0_4, l12_0_5, l12_0_6, l12_0_9, l12_0_10, l12_0_11, l12_0_13, l12_0_14, l12_0_15, l12_0_16, l12_0_17, l12_0_18, l12_0_19, l12_0_23, l12_0_24, l12_0_25, l12_0_27, n_a0, n_a1, n_a2, n_a3, n_a4, n_a5, n_a6, n_a7, n_a8, n_a9, n_a10, n_b0, n_b1, n_b2, n_p0, n_p1, n_p2, n_p3, n_p4, n_s0, n_s1, n_s2, n_s3, n_nm, n20_18, n20_19, n20_20, n20_21, n20_44, n20_45, n20_46, n20_47, n20_48, n20_49, n20_83, n20_84, n20_85, n20_86, n20_87, n20_88, n20_89, n20_90, n20_91, n20_92, n20_93, n20_94, n20_95, n20_96, n20_97, n20_98, n21_2, n21_3, n21_4, n21_5, n21_6, n22_6, n22_7, n22_17, n22_18, n22_19, n22_20, n23_0, n24_0, n25_0, r_a0, w_a0, r_a1, w_a1, r_a2, w_a2, r_a3, w_a3, r_a4, w_a4, r_a5, w_a5, r_a6, w_a6, r_a7, w_a7, r_a8, w_a8, r_a9, w_a9, r_a10, w_a10, r_b0, w_b0, r_b1, w_b1, r_b2, w_b2, r_d, w_d, r_c, w_c, r_e, w_e, r_t, w_t, r_f0, w_f0, r_f1, w_f1, r_f2, w_f2, r_f3, w_f3, r_e0, w_e0, r_e1, w_e1, r_e2, w_e2, r_o7, r_o8, r_o9, r_o10, r_o1, r_o5, r_o6, r_o11, r_o12, r_o21, r_o23, r_p0, r_p1, r_p2, r_s0, r_s1, r_s2, r_s3, i3_add1, i3_add, i3_mul, i3_addl, i3_mull, i3_ladd, i3_lmul, i3_div4, i3_le, i3_lt, i3_eq, i3_lel, i3_lle, i3_ltl, i3_llt, i3_eql, i3_leq, i3_nl, i3_0l, i3_nn, n1_lt, n1_le, xi_i3, xin_i3, xi_lit, xin_lit, xb0, xb1, gd_t, nz4, Option.bind_some, gR_emb, gN_emb, gL_emb, ↓reduceIte, if_true, if_false, not_true_eq_false, not_false_eq_true, eq_self, Nat.not_lt_zero, Nat.zero_le, true_or, or_true, false_or, or_false, true_and, and_true, false_and, and_false, o5]
    rw [if_pos (Nat.le_refl _)]
theorem hotF_le {g : Nat → Nat} (hg : ∀ k, g k ≤ 36) : ∀ k, (hotF g k).2 ≤ 36
  | 0 => Nat.zero_le _
  | k + 1 => by
    have := hotF_le hg k
    unfold hotF
    split
    · exact hg k
    · exact this
theorem hot_s {g : Nat → Nat} : hotF g (k + 1) = if (hotF g k).2 < g k then (i3 k, g k) else hotF g k := rfl
theorem e_hot (h : Lay M) (hB : CB C) (ha : a < 2) (hC : Cfg C R a M) (hp : gR M 2 0 4 = some a) (hI : Inv C L D) (hV : InV C D) (hf : 1100 < fu) :
    F_X2_hottestFile fu 0 (emb 0 D M) = some ((hotF (fun f => cnt (drB D f) (tot C)) (C 0 3)).1, emb 0 (if C 0 3 = 0 then D else surveyT D (C 0 0) (C 0 1)) M) := by
  have h36 := tot36 hB
  have c5 := hB.2.2.2.1
  have hg : ∀ k, cnt (drB D k) (tot C) ≤ 36 := fun k => Nat.le_trans (cnt_le _ _) h36
  have c9 := fun T : xT => (Cfg_emb (d := 0) (D := T) ha hC).2.2.2.2.2.2.2.2.1
  unfold F_X2_hottestFile
  have key := lpc (fun l i (y : (Int32 × Nat) × xT) => L_X2_hottestFile_6 fu l 0 y.1.1 (i3 y.1.2) (i3 i) (emb 0 y.2 M)) (fun i => (hotF (fun f => cnt (drB D f) (tot C)) i, if i = 0 then D else surveyT D (C 0 0) (C 0 1))) (C 0 3) (some ((hotF (fun f => cnt (drB D f) (tot C)) (C 0 3)).1, emb 0 (if C 0 3 = 0 then D else surveyT D (C 0 0) (C 0 1)) M)) ?_ ?_ fu 0 (by omega) (by omega)
  · exact key
  · intro l i hi
    show L_X2_hottestFile_6 fu (l + 1) 0 (hotF (fun f => cnt (drB D f) (tot C)) i).1 (i3 (hotF (fun f => cnt (drB D f) (tot C)) i).2) (i3 i) (emb 0 (if i = 0 then D else surveyT D (C 0 0) (C 0 1)) M) = L_X2_hottestFile_6 fu l 0 (hotF (fun f => cnt (drB D f) (tot C)) (i + 1)).1 (i3 (hotF (fun f => cnt (drB D f) (tot C)) (i + 1)).2) (i3 (i + 1)) (emb 0 (if i + 1 = 0 then D else surveyT D (C 0 0) (C 0 1)) M)
    have hli := hotF_le hg i
    have hgi := hg i
    have ed := e_dirtyOf (fu := fu) (M := M) (f := i) (T' := if i = 0 then D else surveyT D (C 0 0) (C 0 1)) h hB hI hV hf (by split; exact Or.inl rfl; exact Or.inr rfl)
    rw [hot_s, if_neg (show ¬ i + 1 = 0 by omega)]
    conv => lhs; unfold L_X2_hottestFile_6
    simp only [gR_emb]
    rw [hp]
    simp only [Option.bind_some]
    rw [c9, if_neg (fun q => by have := (i3_le (by omega) (by omega)).mp q; omega), ed]
    simp only [Option.bind_some]
    by_cases c : (hotF (fun f => cnt (drB D f) (tot C)) i).2 < cnt (drB D i) (tot C)
    · rw [if_neg (fun q => by have := (i3_le (by omega) (by omega)).mp q; omega), if_pos c, i3_add1]
    · rw [if_pos ((i3_le (by omega) (by omega)).mpr (by omega)), if_neg c, i3_add1]
  · intro l
    show L_X2_hottestFile_6 fu (l + 1) 0 (hotF (fun f => cnt (drB D f) (tot C)) (C 0 3)).1 (i3 (hotF (fun f => cnt (drB D f) (tot C)) (C 0 3)).2) (i3 (C 0 3)) (emb 0 (if C 0 3 = 0 then D else surveyT D (C 0 0) (C 0 1)) M) = _
    conv => lhs; unfold L_X2_hottestFile_6
    simp only [gR_emb]
    rw [hp]
    simp only [Option.bind_some]
    rw [c9, if_pos (Int32.le_refl _)]
theorem t_hot30 (h : Lay M) (hM : MCfg C X) (hB : CB C) (hR : Rel C 0 D X) (hI : Inv C L D) (hLk : Lk D X) (hf : 1100 < fu) (hm : m ≤ 36) :
    L_X12_hot_30 fu kk fu 0 x (i3 m) (i3 f) 0 0 (mmb X M) = (if m < cnt (drB D f) (tot C) then kk 0 (i3 f) (i3 (cnt (drB D f) (tot C))) (i3 f + 1) (mmb X M) else kk 0 x (i3 m) (i3 f + 1) (mmb X M)) := by
  have h36 := tot36 hB
  have kl : ∀ s, s < tot C → F_X12_isLive fu 0 0 (i3 s) (mmb X M) = some (bz (liveB D s), mmb X M) := fun s hs => t_isLive (b := 0) h (by omega) hB hR hI.2.1 hI.2.2.1 hI.2.2.2.1 hI.2.2.2.2.2.1 hLk (by omega) hs
  refine lpc (fun l i z => L_X12_hot_30 fu kk l 0 x (i3 m) (i3 f) z (i3 i) (mmb X M)) (fun i => i3 (cnt (drB D f) i)) (tot C) _ ?_ ?_ fu 0 (by omega) (by omega)
  · intro l i hi
    show L_X12_hot_30 fu kk (l + 1) 0 x (i3 m) (i3 f) (i3 (cnt (drB D f) i)) (i3 i) (mmb X M) = L_X12_hot_30 fu kk l 0 x (i3 m) (i3 f) (i3 (cnt (drB D f) (i + 1))) (i3 (i + 1)) (mmb X M)
    have k1 : F_X12_typeOf fu 0 0 (i3 i) (mmb X M) = some (D 2 i, mmb X M) := t_typeOf (b := 0) h (by omega) hB hR hi
    have k2 : F_X12_slotAt fu 0 (i3 i) (mmb X M) = some (i3 (34 + 13 * i), mmb X M) := by
      have := t_slotAt (fu := fu) (b := 0) (s := i) (M := mmb X M)
      rw [Nat.zero_add] at this
      exact this
    have g9 := hR.2.2.2.2.2.2.2.2.2 i hi
    rw [Nat.zero_add] at g9
    rw [cnt_s]
    conv => lhs; unfold L_X12_hot_30
    rw [t_all h hM]
    simp only [Option.bind_some]
    rw [if_neg (fun q => by have := (i3_le (by omega) (by omega)).mp q; omega), k1]
    simp only [Option.bind_some]
    unfold drB
    by_cases c1 : D 2 i = 1
    · rw [if_neg (fun q => q c1), decide_eq_true c1, Bool.true_and, k2]
      obtain ⟨e1, e2, e3, e4⟩ := g9.2.1 (by rw [c1]; decide)
      simp (disch := first | assumption | omega) only [l12_0_1, l12_0_4, l12_0_5, l12_0_6, l12_0_9, l12_0_10, l12_0_11, l12_0_13, l12_0_14, l12_0_15, l12_0_16, l12_0_17, l12_0_18, l12_0_19, l12_0_23, l12_0_24, l12_0_25, l12_0_27, n20_83, n20_84, n20_85, n20_86, n20_87, n20_88, n20_89, n20_90, n20_91, n20_92, n20_93, n20_94, n20_95, n20_96, n20_97, n20_98, n21_2, n21_3, n21_4, n21_5, n21_6, n22_20, m_0, m_1, m_87, m_88, m_89, m_90, m_91, m_92, m_93, m_94, m_95, m_96, m_97, m_98, p_0, p_1, p_87, p_88, p_89, p_90, p_91, p_92, p_93, p_94, p_95, p_96, p_97, p_98, gR_mmb, gN_mmb, gL_mmb, i3_add1, i3_add, i3_mul, i3_addl, i3_mull, i3_ladd, i3_lmul, i3_div4, i3_le, i3_lt, i3_eq, i3_lel, i3_lle, i3_ltl, i3_llt, i3_eql, i3_leq, i3_nl, i3_0l, i3_nn, n1_lt, n1_le, xi_i3, xin_i3, xi_lit, xin_lit, xb0, xb1, gd_t, nz4, Option.bind_some, gR_emb, gN_emb, gL_emb, ↓reduceIte, if_true, if_false, not_true_eq_false, not_false_eq_true, eq_self, Nat.not_lt_zero, Nat.zero_le, true_or, or_true, false_or, or_false, true_and, and_true, false_and, and_false, e2]
      by_cases c2 : D 4 i = i3 f
      · rw [if_neg (fun q => q c2), decide_eq_true c2, Bool.true_and, kl i hi]
        simp only [Option.bind_some, bz_0]
        cases liveB D i with
        | true => rw [if_pos (by decide), if_neg (by decide)]; rfl
        | false => rw [if_neg (by decide), if_pos (by decide)]
      · rw [if_pos c2, decide_eq_false c2, Bool.false_and, if_neg (by decide)]; rfl
    · rw [if_pos c1, decide_eq_false c1, Bool.false_and, if_neg (by decide), Int32.add_zero, i3_add1]
  · intro l
    show L_X12_hot_30 fu kk (l + 1) 0 x (i3 m) (i3 f) (i3 (cnt (drB D f) (tot C))) (i3 (tot C)) (mmb X M) = _
    have hg := Nat.le_trans (cnt_le (drB D f) (tot C)) h36
    conv => lhs; unfold L_X12_hot_30
    rw [t_all h hM]
    simp only [Option.bind_some]
    rw [if_pos (Int32.le_refl _)]
    unfold J_X12_hot_104
    by_cases c : m < cnt (drB D f) (tot C)
    · have q1 : ¬ i3 (cnt (drB D f) (tot C)) ≤ i3 m := fun q => by have := (i3_le (by omega) (by omega)).mp q; omega
      rw [if_neg q1, if_neg q1, if_pos c]
    · have q1 : i3 (cnt (drB D f) (tot C)) ≤ i3 m := (i3_le (by omega) (by omega)).mpr (by omega)
      rw [if_pos q1, if_pos q1, if_neg c]
theorem op_hot (hS : SimP C R a w n W V B M) (hf : 1100 < fu) : Both C R a w n W V B (F_X11_hot fu 0) (F_X12_hot fu 0) M := by
  obtain ⟨s1, s2, s3, s4, s5, s6, ⟨L, l1, l2, l3, l4, l5, l6⟩, s8, s9, s10, s11, s12, s13, s14, s15⟩ := id hS
  have h := s1.1
  have h36 := tot36 s2
  have c5 := s2.2.2.2.1
  have hM0 := up0_M (v := 0) s4
  have hX := up0_Rel (v := 0) l4
  have hL0 := up0_Lk (v := 0) s8
  have hX2 : Rel C 0 (tb 0 M) (lkX (up (tX M) 0 0 0) 0 (i3 (fsN (tb 0 M)), i3 (wpN (tb 0 M)))) := Rel_95 hX (fun k => lkX_o (Or.inl (by decide)))
  have hM2 : MCfg C (lkX (up (tX M) 0 0 0) 0 (i3 (fsN (tb 0 M)), i3 (wpN (tb 0 M)))) := MCfg_90 hM0 (fun k => lkX_o (Or.inl (by decide)))
  have ew := e_hot (fu := fu) (M := M) (D := tb 0 M) h s2 s1.2.1 s3 l5 l2 l3 hf
  rw [emb_tb] at ew
  have hg : ∀ k, cnt (drB (tb 0 M) k) (tot C) ≤ 36 := fun k => Nat.le_trans (cnt_le _ _) h36
  refine op_read (r := (hotF (fun f => cnt (drB (tb 0 M) f) (tot C)) (C 0 3)).1) (E := if C 0 3 = 0 then tb 0 M else surveyT (tb 0 M) (C 0 0) (C 0 1)) hS ?_ ?_ ?_ ?_ (fun M1 h1 => ⟨_, ?_, FmS_lk (v := 0)⟩)
  · unfold F_X11_hot
    rw [l11_0_6 h]
    simp only [Option.bind_some]
    rw [ew]
    rfl
  · split
    · exact Sv_rf
    · exact Sv_survey
  · split
    · exact l3
    · exact InV_survey s2 l3
  · split
    · exact KE_rf
    · exact KE_survey
  · have kl : F_X12_looks fu 0 0 (mmb (up (tX M) 0 0 0) M1) = some (mmb (lkX (up (tX M) 0 0 0) 0 (i3 (fsN (tb 0 M)), i3 (wpN (tb 0 M)))) M1) := t_looks (b := 0) h1 hM0 (by omega) s2 hX l2.2.1 l2.2.2.1 l2.2.2.2.1 l2.2.2.2.2.2.1 hL0 (by omega)
    unfold F_X12_hot
    simp only [sI_th]
    rw [kl]
    simp only [Option.bind_some]
    have hLk := Lk_lkX (D := tb 0 M) (X := up (tX M) 0 0 0) (b := 0)
    generalize lkX (up (tX M) 0 0 0) 0 (i3 (fsN (tb 0 M)), i3 (wpN (tb 0 M))) = Y at hX2 hM2 hLk
    refine lpc (fun l i (y : Int32 × Nat) => L_X12_hot_16 fu l 0 y.1 (i3 y.2) (i3 i) (mmb Y M1)) (fun i => hotF (fun f => cnt (drB (tb 0 M) f) (tot C)) i) (C 0 3) _ ?_ ?_ fu 0 (by omega) (by omega)
    · intro l i hi
      show L_X12_hot_16 fu (l + 1) 0 (hotF (fun f => cnt (drB (tb 0 M) f) (tot C)) i).1 (i3 (hotF (fun f => cnt (drB (tb 0 M) f) (tot C)) i).2) (i3 i) (mmb Y M1) = L_X12_hot_16 fu l 0 (hotF (fun f => cnt (drB (tb 0 M) f) (tot C)) (i + 1)).1 (i3 (hotF (fun f => cnt (drB (tb 0 M) f) (tot C)) (i + 1)).2) (i3 (i + 1)) (mmb Y M1)
      have hli := hotF_le hg i
      have k3 := t_hot30 (kk := L_X12_hot_16 fu l) (fu := fu) (x := (hotF (fun f => cnt (drB (tb 0 M) f) (tot C)) i).1) (m := (hotF (fun f => cnt (drB (tb 0 M) f) (tot C)) i).2) (f := i) h1 hM2 s2 hX2 l2 hLk hf hli
      rw [hot_s]
      conv => lhs; unfold L_X12_hot_16
      rw [t_files h1 hM2]
      simp only [Option.bind_some]
      rw [if_neg (fun q => by have := (i3_le (by omega) (by omega)).mp q; omega), k3, i3_add1]
      split <;> rfl
    · intro l
      show L_X12_hot_16 fu (l + 1) 0 (hotF (fun f => cnt (drB (tb 0 M) f) (tot C)) (C 0 3)).1 _ (i3 (C 0 3)) (mmb Y M1) = _
      conv => lhs; unfold L_X12_hot_16
      rw [t_files h1 hM2]
      simp only [Option.bind_some]
      rw [if_pos (Int32.le_refl _)]
end
