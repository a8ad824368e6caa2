/-! ===== feed: the relation ===== -/
/-- the cells of the class that count between calls, the tape's apart -/
def keepC (a w c s : Nat) : Prop := c = 1 ∨ c = 5 ∨ c = 7 ∧ s = a ∨ c = 8 ∧ s = a ∨ c = 9 ∧ s = w ∨ c = 20 ∧ (5 * a ≤ s ∧ s < 5 * a + 3 ∨ 10 + 4 * w ≤ s ∧ s < 14 + 4 * w ∨ 44 ≤ s ∧ s ≤ 46 ∨ 83 ≤ s ∧ s ≤ 86) ∨ c = 22 ∧ (s = 6 ∨ 17 ≤ s ∧ s ≤ 19)
/-- what a call leaves that touches the tape and what is being read alone -/
def TpF (a w : Nat) (M M' : xM) : Prop := Lay M' ∧ (∀ c s k, gR M' c s k = gR M c s k) ∧ (∀ s k, (s = a ∨ s = 3 ∨ s = 4 ∧ k < 5 ∨ s = 5 ∨ s = 6) → gL M' 21 s k = gL M 21 s k) ∧ (∀ c s k, keepC a w c s → gI M' c s k = gI M c s k) ∧ (∀ d j k, d < 5 → j < 29 → tb d M' j k = tb d M j k) ∧
  ∀ j k, (j = 0 ∧ (20 ≤ k ∧ k ≤ 22 ∨ k = 26) ∨ j = 1 ∨ j = 90 ∧ k < 20 ∨ j = 91 ∧ k < 1100 ∨ j = 92 ∧ k < 100 ∨ j = 95 ∨ j = 97) → tX M' j k = tX M j k
section
variable {M M' N : xM} {D X X' : xT} {C : xC} {R : Nat → Int32} {q r : Nat × (Nat → Int32)} {a w B W0 fu l n m i k d c' s' : Nat} {c s : Int32} {x y z : Int64} {kk : Nat → Int64 → Int32 → xM → Option xM} {W : Nat → Nat} {V : Nat → Nat → Int32}
theorem MCfg_20 (hB : CB C) (h : MCfg C X) (h90 : ∀ k, k < 20 → X' 90 k = X 90 k) : MCfg C X' := by
  have c5 := hB.2.2.2.1
  obtain ⟨g0, g1, g2, g3, g4⟩ := h
  refine ⟨(h90 _ (by omega)).trans g0, (h90 _ (by omega)).trans g1, (h90 _ (by omega)).trans g2, (h90 _ (by omega)).trans g3, fun f hf => ?_⟩
  rw [h90 _ (by omega), h90 _ (by omega)]
  exact g4 f hf
theorem Wk_100 (h : WkAs n W V X) (e : ∀ k, k < 100 → X' 92 k = X 92 k) : WkAs n W V X' := by
  obtain ⟨h1, h2, h3⟩ := h
  refine ⟨(e _ (by omega)).trans h1, h2, fun i hi => ?_⟩
  rw [e _ (by omega), e _ (by omega), e _ (by omega), e _ (by omega)]
  exact h3 i hi
theorem tb_all (h : ∀ d j k, d < 5 → j < 29 → tb d M' j k = tb d M j k) (hd : d < 5) : tb d M' = tb d M := by
  funext j k
  by_cases c : j < 29
  · exact h d j k hd c
  · unfold tb; rw [if_neg c, if_neg c]
theorem Sim_tp (hS : SimP C R a w n W V B M) (h : TpF a w M M') (hU : RuleAs C R (tX M')) (hT : PTape M') : SimP C R a w n W V B M' := by
  obtain ⟨s1, s2, s3, s4, s5, s6, s7, s8, s9, s10, s11, s12, s13, s14, s15⟩ := hS
  obtain ⟨h1, h2, h3, h4, h5, h6⟩ := h
  have ht : ∀ d, d < 5 → tb d M' = tb d M := fun d hd => tb_all h5 hd
  have hk : ∀ c s k, keepC a w c s → gI M' c s k = gI M c s k := h4
  have h95 : ∀ k, tX M' 95 k = tX M 95 k := fun k => h6 95 k (by omega)
  obtain ⟨b1, b2, b3, b4, b5, b6, b7⟩ := s1
  have hcl : ∀ c p v s b, (c = 0 ∧ p = 44 ∧ v = 45 ∧ s = 6 ∨ (c = 1 ∨ c = 2) ∧ (p = 83 ∨ p = 85) ∧ (v = 84 ∨ v = 86) ∧ (s = 17 ∨ s = 18)) → PClue c p v s b M → PClue c p v s b M' := fun c p v s b hc ⟨m, A, Bv, S, g1, g2⟩ =>
    ⟨m, A, Bv, S, SeenC_at (hk _ _ _ (by unfold keepC; omega)) (fun k => hk _ _ _ (by unfold keepC; omega)) (fun k => hk _ _ _ (by unfold keepC; omega)) (fun k => hk _ _ _ (by unfold keepC; omega)) g1, Seen_row (fun k _ _ => h95 k) g2⟩
  refine ⟨⟨h1, b2, b3, (h2 _ _ _).trans b4, (h2 _ _ _).trans b5, (h2 _ _ _).trans b6, (h2 _ _ _).trans b7⟩, s2, ?_, MCfg_20 s2 s4 (fun k hk => h6 90 k (by omega)), hU, ?_, PDisk_cg s2 (Nat.le_refl _) (fun j k hj => by rw [ht 0 (by omega)]) (fun k _ _ => h95 k) (h2 _ _ _) s7, fun q => ?_, ?_, Wk_100 s10 (fun k hk => h6 92 k (by omega)), hcl _ _ _ _ _ (by omega) s11, ?_, ?_, hT, fun k hk => (h3 _ _ (by omega)).trans (s15 k hk)⟩
  · obtain ⟨c1, c2, c3, c4, c5, c6, c7, c8, c9, c10, c11, c12⟩ := s3
    refine ⟨c1, c2, c3, c4, c5, (hk _ _ _ (by unfold keepC; omega)).trans c6, (hk _ _ _ (by unfold keepC; omega)).trans c7, (hk _ _ _ (by unfold keepC; omega)).trans c8, (hk _ _ _ (by unfold keepC; omega)).trans c9, (hk _ _ _ (by unfold keepC; omega)).trans c10, fun f hf => ?_, fun i hi => (hk _ _ _ (by unfold keepC; omega)).trans (c12 i hi)⟩
    rw [hk _ _ _ (by unfold keepC; omega), hk _ _ _ (by unfold keepC; omega)]
    exact c11 f hf
  · have c5 := s2.2.2.2.1
    exact PNames_cg (fun s k q hk => h3 s k (by omega)) s6
  · rw [h6 0 22 (by omega)] at q
    have := s8 q
    unfold Lk at this ⊢
    rw [h6 0 20 (by omega), h6 0 21 (by omega), ht 0 (by omega)]
    exact this
  · obtain ⟨g1, g2, g3⟩ := s9
    refine ⟨(hk _ _ _ (by unfold keepC; omega)).trans g1, g2, fun i hi => ?_⟩
    rw [hk _ _ _ (by unfold keepC; omega), hk _ _ _ (by unfold keepC; omega), hk _ _ _ (by unfold keepC; omega), hk _ _ _ (by unfold keepC; omega)]
    exact g3 i hi
  · intro k hk2
    obtain ⟨p1, p2⟩ := s12 k hk2
    have e19 : gI M' 22 19 k = gI M 22 19 k := hk _ _ _ (by unfold keepC; omega)
    rw [e19, h6 1 k (by omega)]
    refine ⟨p1, ?_⟩
    rcases p2 with p2 | ⟨p2, p3, p4⟩
    · exact Or.inl p2
    · exact Or.inr ⟨p2, PDisk_cg s2 (Nat.le_refl _) (fun j i hj => by rw [ht (3 + k) (by omega)]) (fun i _ _ => h95 i) (h2 _ _ _) p3, hcl _ _ _ _ _ (by omega) p4⟩
  · have e5 : ∀ k, gI M' 5 0 k = gI M 5 0 k := fun k => hk _ _ _ (by unfold keepC; omega)
    rcases s13 with ⟨p1, p2⟩ | ⟨p1, D, p2, ⟨q1, q2, q3, q4, q5, q6⟩, p3⟩
    · exact Or.inl ⟨(e5 _).trans p1, (h6 _ _ (by omega)).trans p2⟩
    · refine Or.inr ⟨(e5 _).trans p1, D, p2, ⟨(e5 _).trans q1, (e5 _).trans q2, fun k hk' => (hk _ _ _ (by unfold keepC; omega)).trans (q3 k hk'), fun j k hj => by rw [ht 2 (by omega)]; exact q4 j k hj, by rw [ht 2 (by omega)]; exact q5, by rw [ht 2 (by omega)]; exact q6⟩, ?_⟩
      rcases p3 with p3 | ⟨p3, r1, r2, r3⟩
      · exact Or.inl ((h6 _ _ (by omega)).trans p3)
      · refine Or.inr ⟨(h6 _ _ (by omega)).trans p3, fun j hj => (h6 97 j (by omega)).trans (r1 j hj), fun c hc hcP m hm => ?_, fun i hi m hm => ?_⟩
        · rw [h3 _ _ (by omega)]; exact r2 c hc hcP m hm
        · rw [h3 _ _ (by omega)]; exact r3 i hi m hm
theorem t_layS (h : Lay N) (hs : ¬ s < 0) (hq : q.1 ≤ 1000) : L_X12_lay_3 fu (l + 1) 0 x s (mmb (tpX X q) N) = L_X12_lay_3 fu l 0 x (s + (-8)) (mmb (tpX X (adS (chV x s) q)) N) := by
  have e2 : tpX X q 0 2 = i3 q.1 := by unfold tpX; rw [if_pos ⟨rfl, rfl⟩]
  conv => lhs; unfold L_X12_lay_3
  rw [if_neg hs]
  have hc : (Int64.toInt32 (x >>> ((s : Int32).toInt64 &&& 63))) &&& 255 = chV x s := rfl
  simp only [hc]
  generalize chV x s = c
  have hJ : okC c = true → J_X12_lay_38 fu (L_X12_lay_3 fu l) 0 x s c (mmb (tpX X q) N) = L_X12_lay_3 fu l 0 x (s + (-8)) (mmb (tpX X (adS c q)) N) := fun hk => by
    unfold J_X12_lay_38
    rw [m_0, e2]
    by_cases c1 : q.1 < 1000
    · have e3 : up (tpX X q) 87 q.1 c 0 2 = i3 q.1 := (up_ne (by omega)).trans e2
      rw [if_neg (show ¬ (1000 : Int32) ≤ i3 q.1 from fun z => by have := (i3_le (a := 1000) (by omega) (by omega)).mp z; omega), gR_mmb, l12_0_1 h]
      simp only [Option.bind_some, gN_mmb]
      rw [n20_87 h, xin_i3 c1 (by omega), gd_t, xi_i3 (by omega), p_87, m_0, e3, i3_add1, p_0, tpX_s c1 hk]
    · have e : adS c q = q := by unfold adS; rw [if_neg (fun z => c1 z.1)]
      rw [if_pos (show (1000 : Int32) ≤ i3 q.1 from (i3_le (a := 1000) (by omega) (by omega)).mpr (by omega)), e]
  by_cases c2 : c = 10
  · rw [if_pos c2]
    exact hJ (by unfold okC; rw [decide_eq_true c2]; rfl)
  rw [if_neg c2]
  by_cases c3 : c < 32
  · have e : adS c q = q := by unfold adS; rw [okC_f c2 (Or.inl c3), if_neg (fun z => by cases z.2)]
    rw [if_pos c3, e]
  rw [if_neg c3]
  by_cases c4 : 126 < c
  · have e : adS c q = q := by unfold adS; rw [okC_f c2 (Or.inr c4), if_neg (fun z => by cases z.2)]
    rw [if_pos c4, e]
  rw [if_neg c4]
  exact hJ (by unfold okC; rw [decide_eq_false c2, decide_eq_false c3, decide_eq_false c4]; rfl)
theorem t_layL (h : Lay N) (hq : tpOk q) (hf : 100 < fu) : F_X12_lay fu 0 x (mmb (tpX X q) N) = some (mmb (tpX X (adL x q)) N) := by
  obtain ⟨l, rfl⟩ : ∃ k, fu = k + 9 := ⟨fu - 9, by omega⟩
  have o1 := adS_ok (c := chV x 56) hq
  have o2 := adS_ok (c := chV x 48) o1
  have o3 := adS_ok (c := chV x 40) o2
  have o4 := adS_ok (c := chV x 32) o3
  have o5 := adS_ok (c := chV x 24) o4
  have o6 := adS_ok (c := chV x 16) o5
  have o7 := adS_ok (c := chV x 8) o6
  unfold F_X12_lay adL
  rw [t_layS h (by decide) hq.1, show (56 : Int32) + -8 = 48 by decide, t_layS h (by decide) o1.1, show (48 : Int32) + -8 = 40 by decide, t_layS h (by decide) o2.1, show (40 : Int32) + -8 = 32 by decide, t_layS h (by decide) o3.1, show (32 : Int32) + -8 = 24 by decide, t_layS h (by decide) o4.1, show (24 : Int32) + -8 = 16 by decide, t_layS h (by decide) o5.1, show (16 : Int32) + -8 = 8 by decide, t_layS h (by decide) o6.1, show (8 : Int32) + -8 = 0 by decide, t_layS h (by decide) o7.1]
  unfold L_X12_lay_3
  rw [if_pos (by decide)]
theorem tpM_self (h : gI M 10 0 1 = i3 i) : tpM M (i, gI M 23 0) = M := by
  refine Prod.ext ?_ rfl
  funext c' s' k'
  show (if c' = 10 ∧ s' = 0 ∧ k' = 1 then i3 i else if c' = 23 ∧ s' = 0 then gI M 23 0 k' else M.1 c' s' k') = M.1 c' s' k'
  by_cases h1 : c' = 10 ∧ s' = 0 ∧ k' = 1
  · rw [if_pos h1, h1.1, h1.2.1, h1.2.2]; exact h.symm
  rw [if_neg h1]
  by_cases h2 : c' = 23 ∧ s' = 0
  · rw [if_pos h2, h2.1, h2.2]; rfl
  · rw [if_neg h2]
theorem tpX_self (h : X 0 2 = i3 i) : tpX X (i, X 87) = X := by
  funext j k
  show (if j = 0 ∧ k = 2 then i3 i else if j = 87 then X 87 k else X j k) = X j k
  by_cases h1 : j = 0 ∧ k = 2
  · rw [if_pos h1, h1.1, h1.2]; exact h.symm
  rw [if_neg h1]
  by_cases h2 : j = 87
  · rw [if_pos h2, h2]
  · rw [if_neg h2]
theorem tpM_o (h : c' ≠ 10 ∧ c' ≠ 23) : gI (tpM M q) c' s' k = gI M c' s' k := by
  show (if c' = 10 ∧ s' = 0 ∧ k = 1 then i3 q.1 else if c' = 23 ∧ s' = 0 then q.2 k else M.1 c' s' k) = M.1 c' s' k
  rw [if_neg (fun z => h.1 z.1), if_neg (fun z => h.2 z.1)]
end
