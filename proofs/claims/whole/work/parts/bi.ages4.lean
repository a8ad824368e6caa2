/-! ===== works by draws: the calls ===== -/
/-- the works, with no file none -/
noncomputable def agE (C : xC) (R : Nat → Int32) (a : Nat) (x : Nat) (T : xT) (A : Nat) : Nat × Nat × xT := if C 0 3 = 0 then (0, x, T) else agF C R a x T A
section
variable {M M' N N' : xM} {D E S T X X' : xT} {C : xC} {R : Nat → Int32} {d fu n m i j o p q a c k l s t w K P L L' b B B' f e F g A A0 x0 : Nat} {u v x y r z : Int32} {nt : Bool} {W : Nat → Nat} {V : Nat → Nat → Int32} {y64 : Int64}
theorem Sim_sL (hS : SimP C R a w n W V B M) : SimP C R a w n W V B (sL M 12 0 28 y64) := by
  obtain ⟨L, l1, l2, l3, l4, l5, l6⟩ := hS.2.2.2.2.2.2.1
  have hl : ∀ s k, gL (sL M 12 0 28 y64) 21 s k = gL M 21 s k := fun s k => by
    show (if 21 = 12 ∧ s = 0 ∧ k = 28 then y64 else gL M 21 s k) = gL M 21 s k
    exact if_neg (by omega)
  refine Sim_cl hS ⟨hS.1.1, fun c s k _ _ _ => rfl, fun j k _ _ _ _ => rfl, l3, fun d j k _ _ _ => rfl, fun c s k _ => rfl, fun s k _ => hl s k⟩ ⟨fun j k _ _ => rfl, fun k _ => rfl⟩ hS.2.2.2.2.2.2.2.1 ?_
  exact PJudge_cg (fun c s k _ => rfl) (fun j k _ => rfl) rfl rfl rfl (fun k => rfl) (fun s k _ => hl s k) hS.2.2.2.2.2.2.2.2.2.2.2.2.1
theorem agF_s (i : Nat) : agF C R a x0 T (i + 1) =
    (if (didT C R a false (agF C R a x0 T i).2.2 (agK (C 0 3) (agF C R a x0 T i).2.1 (agF C R a x0 T i).2.2).1 (i3 (agK (C 0 3) (agF C R a x0 T i).2.1 (agF C R a x0 T i).2.2).2.1) (i3 (agK (C 0 3) (agF C R a x0 T i).2.1 (agF C R a x0 T i).2.2).2.2.1) (i3 (agK (C 0 3) (agF C R a x0 T i).2.1 (agF C R a x0 T i).2.2).2.2.2.1)).1 then (agF C R a x0 T i).1 + 1 else (agF C R a x0 T i).1,
     (agK (C 0 3) (agF C R a x0 T i).2.1 (agF C R a x0 T i).2.2).2.2.2.2,
     (didT C R a false (agF C R a x0 T i).2.2 (agK (C 0 3) (agF C R a x0 T i).2.1 (agF C R a x0 T i).2.2).1 (i3 (agK (C 0 3) (agF C R a x0 T i).2.1 (agF C R a x0 T i).2.2).2.1) (i3 (agK (C 0 3) (agF C R a x0 T i).2.1 (agF C R a x0 T i).2.2).2.2.1) (i3 (agK (C 0 3) (agF C R a x0 T i).2.1 (agF C R a x0 T i).2.2).2.2.2.1)).2) := rfl
theorem ag_ok (hB : CB C) (hI : Inv C L T) (hV : InV C T) (hL : L + 800 < 1000000) (h2 : T 14 2 = 0) (hF : 0 < C 0 3) (hx : x0 < 2147483648) : ∀ i, i ≤ 99 →
    Inv C (L + 8 * i) (agF C R a x0 T i).2.2 ∧ InV C (agF C R a x0 T i).2.2 ∧ (agF C R a x0 T i).2.2 14 2 = 0 ∧ (agF C R a x0 T i).2.1 < 2147483648 ∧ (agF C R a x0 T i).1 ≤ i ∧ KE (agF C R a x0 T i).2.2 T
  | 0, _ => ⟨hI, hV, h2, hx, Nat.le_refl _, KE_rf⟩
  | i + 1, hi => by
    obtain ⟨h1, h3, h4, h5, h6, h7⟩ := ag_ok hB hI hV hL h2 hF hx i (by omega)
    rw [agF_s]
    generalize agF C R a x0 T i = s at h1 h3 h4 h5 h6 h7 ⊢
    have hd := Inv_did (R := R) (a := a) (k := (agK (C 0 3) s.2.1 s.2.2).1) (x := i3 (agK (C 0 3) s.2.1 s.2.2).2.1) (y := i3 (agK (C 0 3) s.2.1 s.2.2).2.2.1) (v := i3 (agK (C 0 3) s.2.1 s.2.2).2.2.2.1) hB h1 h3 (by omega) false
    refine ⟨?_, hd.2, did_142 hB h1 h3 (by omega) h4, (agK_ok hF).2.2.2.2, ?_, KE_tr h7 (KE_did hB h1 h3 (by omega))⟩
    · have := hd.1
      rw [show L + 8 * i + 8 = L + 8 * (i + 1) by omega] at this
      exact this
    · show (if _ then s.1 + 1 else s.1) ≤ i + 1
      split
      · exact Nat.succ_le_succ h6
      · exact Nat.le_succ_of_le h6
theorem agE_ok (hB : CB C) (hI : Inv C L T) (hV : InV C T) (hL : L + 800 < 1000000) (h2 : T 14 2 = 0) (hx : x0 < 2147483648) (hA : A ≤ 99) :
    Inv C (L + 800) (agE C R a x0 T A).2.2 ∧ InV C (agE C R a x0 T A).2.2 ∧ (agE C R a x0 T A).1 ≤ 99 ∧ KE (agE C R a x0 T A).2.2 T := by
  unfold agE
  split
  · exact ⟨Inv_le hI (by omega) (by omega), hV, Nat.zero_le _, KE_rf⟩
  · obtain ⟨h1, h3, h4, h5, h6, h7⟩ := ag_ok (R := R) (a := a) hB hI hV hL h2 (by omega) hx A hA
    exact ⟨Inv_le h1 (by omega) (by omega), h3, by omega, h7⟩
/-- the class's works -/
theorem e_agRun (h : Lay N) (hB : CB C) (ha : a < 2) (hC : Cfg C R a N) (hp : gR N 2 1 4 = some a) (hI : Inv C L T) (hV : InV C T) (hL : L + 800 < 1000000) (h2 : T 14 2 = 0) (hx : x0 < 2147483648) (hf : 1100 < fu) (hA : A ≤ 99) :
    F_X6_run fu 0 (some 1) (i3 x0) (i3 A) (emb 1 T N) = some (i3 (agE C R a x0 T A).1, emb 1 (agE C R a x0 T A).2.2 (sL N 6 0 0 (Int64.ofNat (agE C R a x0 T A).2.1))) := by
  have h73 : gI N 7 a 3 = i3 (C 0 3) := hC.2.2.2.2.2.2.2.2.1
  have c5 := hB.2.2.2.1
  have hl0 : sL (emb 1 T N) 6 0 0 (Int64.ofNat x0) = emb 1 T (sL N 6 0 0 (Int64.ofNat x0)) := rfl
  have e73 : gI (emb 1 T (sL N 6 0 0 (Int64.ofNat x0))) 7 a 3 = i3 (C 0 3) := (gI_not (d := 1) ((bs_c (c := 7) (s := a) (by omega)).1 ⟨1, by omega⟩)).trans h73
  unfold F_X6_run
  rw [l_i64 hx, hl0]
  simp only [Option.bind_some, gR_emb]
  rw [show gR (sL N 6 0 0 (Int64.ofNat x0)) 2 1 4 = some a from hp]
  simp only [Option.bind_some]
  rw [e73]
  unfold agE
  by_cases hF : C 0 3 = 0
  · rw [if_pos hF, hF]
    obtain ⟨fu', rfl⟩ : ∃ k, fu = k + 1 := ⟨fu - 1, by omega⟩
    unfold L_X6_run_21
    by_cases c : i3 A ≤ 0
    · rw [if_pos c]; rfl
    · rw [if_neg c, if_pos (show i3 0 ≤ 0 from Int32.le_refl _)]; rfl
  · rw [if_neg hF]
    have hF' : 0 < C 0 3 := by omega
    refine lpc (fun l i (s : Nat × Nat × xT) => L_X6_run_21 fu l 0 (some 1) (i3 A) (i3 (C 0 3)) (i3 s.1) (i3 i) (emb 1 s.2.2 (sL N 6 0 0 (Int64.ofNat s.2.1)))) (fun i => agF C R a x0 T i) A _ ?_ ?_ fu 0 (by omega) (by omega)
    · intro l i hi
      obtain ⟨h1, h3, h4, h5, h6, h7⟩ := ag_ok (R := R) (a := a) hB hI hV hL h2 hF' hx i (by omega)
      show L_X6_run_21 fu (l + 1) 0 (some 1) (i3 A) (i3 (C 0 3)) (i3 (agF C R a x0 T i).1) (i3 i) (emb 1 (agF C R a x0 T i).2.2 (sL N 6 0 0 (Int64.ofNat (agF C R a x0 T i).2.1))) = L_X6_run_21 fu l 0 (some 1) (i3 A) (i3 (C 0 3)) (i3 (agF C R a x0 T (i + 1)).1) (i3 (i + 1)) (emb 1 (agF C R a x0 T (i + 1)).2.2 (sL N 6 0 0 (Int64.ofNat (agF C R a x0 T (i + 1)).2.1)))
      rw [agF_s]
      generalize agF C R a x0 T i = s at h1 h3 h4 h5 h6 h7 ⊢
      conv => lhs; unfold L_X6_run_21
      rw [if_neg (fun q => by have := (i3_le (by omega) (by omega)).mp q; omega), if_neg (fun q => by have := (i3_le (b := 0) (by omega) (by omega)).mp q; omega)]
      have := e_agStep (kk := L_X6_run_21 fu l) (u := i3 A) (v := i3 i) (fu := fu) (n := s.1) h hB ha hC hp h1 h3 (by omega) h4 hF' h5 hf (by omega)
      rw [i3_add1] at this
      exact this
    · intro l
      show L_X6_run_21 fu (l + 1) 0 (some 1) (i3 A) (i3 (C 0 3)) (i3 (agF C R a x0 T A).1) (i3 A) (emb 1 (agF C R a x0 T A).2.2 (sL N 6 0 0 (Int64.ofNat (agF C R a x0 T A).2.1))) = _
      conv => lhs; unfold L_X6_run_21
      rw [if_pos (Int32.le_refl _)]
/-- the reference's works -/
theorem t_agRun (h : Lay N) (hB : CB C) (hI : Inv C L T) (hV : InV C T) (hL : L + 800 < 1000000) (h2 : T 14 2 = 0) (hF : 0 < C 0 3) (hx : x0 < 2147483648) (hf : 1100 < fu) (hA : A ≤ 99) : ∀ m i l X, i + m = A → m < l → MCfg C X → RuleAs C R X → Rel C 1605 (agF C R a x0 T i).2.2 X → (X 0 22 = i3 1605 → Lk (agF C R a x0 T i).2.2 X) →
    ∃ X', L_X12_ages_62 fu l 0 (i3 A) z (i3 (agF C R a x0 T i).1) (i3 i) (mmb X (sL N 12 0 28 (Int64.ofNat (agF C R a x0 T i).2.1))) = L_X12_ages_104 fu fu 0 z (i3 (agF C R a x0 T A).1) 0 0 (mmb X' (sL N 12 0 28 (Int64.ofNat (agF C R a x0 T A).2.1))) ∧ Rel C 1605 (agF C R a x0 T A).2.2 X' ∧ MCfg C X' ∧ Fm 1605 X X' ∧ (X' 0 22 = i3 1605 → Lk (agF C R a x0 T A).2.2 X') := by
  intro m
  induction m with
  | zero =>
    intro i l X hi hl hM hU hR hLk
    obtain ⟨l, rfl⟩ : ∃ k, l = k + 1 := ⟨l - 1, by omega⟩
    obtain rfl : i = A := by omega
    refine ⟨X, ?_, hR, hM, Fm_rf, hLk⟩
    conv => lhs; unfold L_X12_ages_62
    rw [if_pos (Int32.le_refl _)]
  | succ m ih =>
    intro i l X hi hl hM hU hR hLk
    obtain ⟨l, rfl⟩ : ∃ k, l = k + 1 := ⟨l - 1, by omega⟩
    have c5 := hB.2.2.2.1
    obtain ⟨h1, h3, h4, h5, h6, h7⟩ := ag_ok (R := R) (a := a) hB hI hV hL h2 hF hx i (by omega)
    have hs := agF_s (C := C) (R := R) (a := a) (x0 := x0) (T := T) i
    obtain ⟨X1, w1, w2, w3, w4, w5, w6⟩ := t_agStep (fu := fu) (N := N) (a := a) h hB hM hU hR h1 h3 (by omega) hLk hF h5 hf
    obtain ⟨X', k1, k2, k3, k4, k5⟩ := ih (i + 1) l X1 (by omega) (by omega) w3 (RuleAs_fm hU (w4.1 90 4 (by omega) (by omega) (by omega) (by omega) (by omega)) (fun k => w4.1 91 k (by omega) (by omega) (by omega) (by omega) (by omega))) (by rw [hs]; exact w2) (by rw [hs]; exact w5)
    refine ⟨X', ?_, k2, k3, Fm_tr w4 k4, k5⟩
    rw [← k1, hs]
    have hfl := t_files (fu := fu) (M := sL N 12 0 28 (Int64.ofNat (agF C R a x0 T i).2.1)) (X := X) (C := C) h hM
    generalize agF C R a x0 T i = s at h1 h3 h4 h5 h6 h7 w1 hfl ⊢
    conv => lhs; unfold L_X12_ages_62
    rw [if_neg (fun q => by have := (i3_le (by omega) (by omega)).mp q; omega), hfl]
    simp only [Option.bind_some]
    rw [if_neg (fun q => by have := (i3_le (b := 0) (by omega) (by omega)).mp q; omega), w1]
    simp only [Option.bind_some, bz_0]
    generalize (didT C R a false s.2.2 (agK (C 0 3) s.2.1 s.2.2).1 (i3 (agK (C 0 3) s.2.1 s.2.2).2.1) (i3 (agK (C 0 3) s.2.1 s.2.2).2.2.1) (i3 (agK (C 0 3) s.2.1 s.2.2).2.2.2.1)) = rr
    rcases (show rr.1 = true ∨ rr.1 = false by cases rr.1 <;> simp) with q | q
    · rw [q, if_neg (by decide), if_pos rfl, i3_add1, i3_add1]
    · rw [q, if_pos rfl, if_neg (by decide), i3_add1, Int32.add_zero]
theorem t_agRun0 (h : Lay N) (hM : MCfg C X) (hF : C 0 3 = 0) (hf : 1100 < fu) (hA : A ≤ 99) : L_X12_ages_62 fu fu 0 (i3 A) z 0 0 (mmb X N) = L_X12_ages_104 fu fu 0 z 0 0 0 (mmb X N) := by
  refine lpc (fun l i (s : Int32) => L_X12_ages_62 fu l 0 (i3 A) z s (i3 i) (mmb X N)) (fun i => 0) A _ ?_ ?_ fu 0 (by omega) (by omega)
  · intro l i hi
    show L_X12_ages_62 fu (l + 1) 0 (i3 A) z 0 (i3 i) (mmb X N) = L_X12_ages_62 fu l 0 (i3 A) z 0 (i3 (i + 1)) (mmb X N)
    conv => lhs; unfold L_X12_ages_62
    rw [if_neg (fun q => by have := (i3_le (by omega) (by omega)).mp q; omega), t_files h hM, hF]
    simp only [Option.bind_some]
    rw [if_pos (show i3 0 ≤ 0 from Int32.le_refl _), i3_add1, Int32.add_zero]
  · intro l
    show L_X12_ages_62 fu (l + 1) 0 (i3 A) z 0 (i3 A) (mmb X N) = _
    conv => lhs; unfold L_X12_ages_62
    rw [if_pos (Int32.le_refl _)]
/-- the reference's answer -/
theorem t_agAns (h : Lay N) (hB : CB C) (hM : MCfg C X) (hR : Rel C 1605 T X) (hI : Inv C L T) (hf : 1100 < fu) : L_X12_ages_104 fu fu 0 z v 0 0 (mmb X N) = some (if z = 0 then v else if z = 1 then T 15 3 else i3 (cnt (fun a => ! decide (T 9 a = 0)) 20), mmb X N) := by
  refine lpc (fun l i x => L_X12_ages_104 fu l 0 z v x (i3 i) (mmb X N)) (fun i => i3 (cnt (fun a => ! decide (T 9 a = 0)) i)) 20 _ ?_ ?_ fu 0 (by omega) (by omega)
  · intro l i hi
    show L_X12_ages_104 fu (l + 1) 0 z v (i3 (cnt (fun a => ! decide (T 9 a = 0)) i)) (i3 i) (mmb X N) = L_X12_ages_104 fu l 0 z v (i3 (cnt (fun a => ! decide (T 9 a = 0)) (i + 1))) (i3 (i + 1)) (mmb X N)
    have e9 : X 95 (1619 + i) = T 9 i := hR.2.2.2.2.2.2.2.2.1 i hi
    rw [cnt_s]
    conv => lhs; unfold L_X12_ages_104
    simp (disch := first | assumption | omega) only [l12_0_1, l12_0_4, l12_0_5, l12_0_6, l12_0_9, l12_0_10, l12_0_11, l12_0_13, l12_0_14, l12_0_15, l12_0_16, l12_0_17, l12_0_18, l12_0_19, l12_0_23, l12_0_24, l12_0_25, l12_0_27, n20_83, n20_84, n20_85, n20_86, n20_87, n20_88, n20_89, n20_90, n20_91, n20_92, n20_93, n20_94, n20_95, n20_96, n20_97, n20_98, n21_2, n21_3, n21_4, n21_5, n21_6, n22_20, m_0, m_1, m_87, m_88, m_89, m_90, m_91, m_92, m_93, m_94, m_95, m_96, m_97, m_98, p_0, p_1, p_87, p_88, p_89, p_90, p_91, p_92, p_93, p_94, p_95, p_96, p_97, p_98, gR_mmb, gN_mmb, gL_mmb, i3_add1, i3_add, i3_mul, i3_addl, i3_mull, i3_ladd, i3_lmul, i3_div4, i3_le, i3_lt, i3_eq, i3_lel, i3_lle, i3_ltl, i3_llt, i3_eql, i3_leq, i3_nl, i3_0l, i3_nn, n1_lt, n1_le, xi_i3, xin_i3, xi_lit, xin_lit, xb0, xb1, gd_t, nz4, Option.bind_some, gR_emb, gN_emb, gL_emb, ↓reduceIte, if_true, if_false, not_true_eq_false, not_false_eq_true, eq_self, Nat.not_lt_zero, Nat.zero_le, true_or, or_true, false_or, or_false, true_and, and_true, false_and, and_false, e9]
    rw [if_neg (by omega)]
    simp only [map_le hI.2.2.2.2.1 hi]
    by_cases c : T 9 i = 0
    · rw [if_pos c, decide_eq_true c, if_neg (by decide)]
      rfl
    · rw [if_neg c, decide_eq_false c, if_pos (by decide)]
  · intro l
    show L_X12_ages_104 fu (l + 1) 0 z v (i3 (cnt (fun a => ! decide (T 9 a = 0)) 20)) (i3 20) (mmb X N) = _
    have k1 : F_X12_erased fu 0 1605 (mmb X N) = some (T 15 3, mmb X N) := t_erased (b := 1605) h hM (by omega) hB hR hI.2.2.2.2.2.2.2 (by omega)
    conv => lhs; unfold L_X12_ages_104
    rw [if_pos (show (20 : Int32) ≤ i3 20 from Int32.le_refl _)]
    by_cases z0 : z = 0
    · rw [if_neg (fun q => q z0), if_pos z0]
    · rw [if_pos z0, if_neg z0]
      by_cases z1 : z = 1
      · rw [if_neg (fun q => q z1), if_pos z1, k1]
        rfl
      · rw [if_pos z1, if_neg z1]
end
