/-! ===== marks: what is copied ===== -/
/-- the clues of e laid over those of d -/
def clM (M : xM) (d e pd vd sd pe ve se : Nat) : xM := cpI (cpI (cpI (sI M 1 d 0 (gI M 1 e 0)) 20 pe pd 0 0 8) 20 ve vd 0 0 8) 22 se sd 0 0 8
/-- the same but for marks and clues -/
def BsM (M M' : xM) : Prop := ∀ c s k, bs c s → c ≠ 1 → (c ≠ 20 ∨ s ≠ 44 ∧ s ≠ 45 ∧ (s < 83 ∨ 86 < s)) → (c ≠ 22 ∨ s ≠ 6 ∧ (s < 17 ∨ 19 < s)) → gI M' c s k = gI M c s k
section
variable {M M' N N' : xM} {D E S T X X' : xT} {C : xC} {R : Nat → Int32} {d fu n m i j o p q a c k l s t w K P L L' b b' B B' f e F g pd vd sd pe ve se c' s' : Nat} {u v x y r z lo hi : Int32} {nt : Bool} {W : Nat → Nat} {V : Nat → Nat → Int32}
theorem own_all (h : own d c s = some j) : j < 29 ∧ c = atC j ∧ s = atS d j := by
  have a := own_at h
  refine ⟨?_, a.1, a.2⟩
  unfold own at h
  (repeat' split at h) <;> first | (injection h with h; omega) | cases h
/-- what no own cell tells is in no table -/
theorem tb_off (h : ∀ c s k, ¬ bs c s → gI M' c s k = gI M c s k) (hd : d < 5) : tb d M' = tb d M := by
  funext j k
  show (if j < 29 then gI M' (atC j) (atS d j) k else 0) = if j < 29 then gI M (atC j) (atS d j) k else 0
  by_cases c : j < 29
  · rw [if_pos c, if_pos c]
    refine h _ _ _ (fun q => ?_)
    have := q.1 ⟨d, hd⟩
    have e := own_dec ⟨d, hd⟩ ⟨j, c⟩
    rw [show own d (atC j) (atS d j) = none from this] at e
    cases e
  · rw [if_neg c, if_neg c]
theorem mow_m0 : mow 12 0 = some 0 := rfl
theorem mow_m1 : mow 22 20 = some 1 := rfl
theorem mow_m2 (h : 87 ≤ j ∧ j < 99) : mow 20 j = some j := by
  unfold mow
  rw [if_neg (by decide), if_pos rfl, if_pos h]
theorem tX_off (h : ∀ c s k, ¬ bs c s → gI M' c s k = gI M c s k) : tX M' = tX M := by
  funext j k
  show (if j = 0 then gI M' 12 0 k else if j = 1 then gI M' 22 20 k else if 87 ≤ j ∧ j < 99 then gI M' 20 j k else 0) = (if j = 0 then gI M 12 0 k else if j = 1 then gI M 22 20 k else if 87 ≤ j ∧ j < 99 then gI M 20 j k else 0)
  by_cases c0 : j = 0
  · rw [if_pos c0, if_pos c0]; exact h _ _ _ (fun q => by have := q.2; rw [mow_m0] at this; cases this)
  rw [if_neg c0, if_neg c0]
  by_cases c1 : j = 1
  · rw [if_pos c1, if_pos c1]; exact h _ _ _ (fun q => by have := q.2; rw [mow_m1] at this; cases this)
  rw [if_neg c1, if_neg c1]
  by_cases c2 : 87 ≤ j ∧ j < 99
  · rw [if_pos c2, if_pos c2]; exact h _ _ _ (fun q => by have := q.2; rw [mow_m2 c2] at this; cases this)
  · rw [if_neg c2, if_neg c2]
theorem gI_cpI : gI (cpI M c s d 0 0 n) c' s' k = if c' = c ∧ s' = d ∧ k < n then gI M c s k else gI M c' s' k := by
  show (if c' = c ∧ s' = d ∧ 0 ≤ k ∧ k < 0 + n then gI M c s (0 + (k - 0)) else gI M c' s' k) = _
  by_cases q : c' = c ∧ s' = d ∧ k < n
  · rw [if_pos q, if_pos ⟨q.1, q.2.1, Nat.zero_le _, by omega⟩, show 0 + (k - 0) = k by omega]
  · rw [if_neg q, if_neg (fun w => q ⟨w.1, w.2.1, by omega⟩)]
theorem gI_sI : gI (sI M c s i v) c' s' k = if c' = c ∧ s' = s ∧ k = i then v else gI M c' s' k := rfl
theorem clM_o (h1 : c' ≠ 1 ∨ s' ≠ d) (h2 : c' ≠ 20 ∨ s' ≠ pd ∧ s' ≠ vd) (h3 : c' ≠ 22 ∨ s' ≠ sd) : gI (clM M d e pd vd sd pe ve se) c' s' k = gI M c' s' k := by
  unfold clM
  rw [gI_cpI, if_neg (by omega), gI_cpI, if_neg (by omega), gI_cpI, if_neg (by omega), gI_sI, if_neg (by omega)]
theorem clM_1 : gI (clM M d e pd vd sd pe ve se) 1 d 0 = gI M 1 e 0 := by
  unfold clM
  rw [gI_cpI, if_neg (by omega), gI_cpI, if_neg (by omega), gI_cpI, if_neg (by omega), gI_sI, if_pos ⟨rfl, rfl, rfl⟩]
theorem clM_p (h : pd ≠ vd) (hk : k < 8) : gI (clM M d e pd vd sd pe ve se) 20 pd k = gI M 20 pe k := by
  unfold clM
  rw [gI_cpI, if_neg (by omega), gI_cpI, if_neg (by omega), gI_cpI, if_pos ⟨rfl, rfl, hk⟩, gI_sI, if_neg (by omega)]
theorem clM_v (h : ve ≠ pd) (hk : k < 8) : gI (clM M d e pd vd sd pe ve se) 20 vd k = gI M 20 ve k := by
  unfold clM
  rw [gI_cpI, if_neg (by omega), gI_cpI, if_pos ⟨rfl, rfl, hk⟩, gI_cpI, if_neg (by omega), gI_sI, if_neg (by omega)]
theorem clM_s (hk : k < 8) : gI (clM M d e pd vd sd pe ve se) 22 sd k = gI M 22 se k := by
  unfold clM
  rw [gI_cpI, if_pos ⟨rfl, rfl, hk⟩, gI_cpI, if_neg (by omega), gI_cpI, if_neg (by omega), gI_sI, if_neg (by omega)]
theorem e_clue (p1 : gR M 1 e 1 = some pe) (p2 : gR M 1 e 2 = some ve) (p3 : gR M 1 e 3 = some se) (q1 : gR M 1 d 1 = some pd) (q2 : gR M 1 d 2 = some vd) (q3 : gR M 1 d 3 = some sd)
    (n1 : gN M 20 pe = 8) (n2 : gN M 20 ve = 8) (n3 : gN M 22 se = 8) (m1 : gN M 20 pd = 8) (m2 : gN M 20 vd = 8) (m3 : gN M 22 sd = 8) :
    F_X1_copyFrom fu d (some e) M = some (clM M d e pd vd sd pe ve se) := by
  have w8 : xcpok 0 0 8 8 8 = true := ccok (n := 8) (by omega)
  have xi0 : xi (0 : Int32) = 0 := by decide
  have xi8 : xi (8 : Int32) = 8 := by decide
  have hr : ∀ v c s k, gR (sI M 1 d 0 v) c s k = gR M c s k := fun v c s k => rfl
  have hn : ∀ v c s, gN (sI M 1 d 0 v) c s = gN M c s := fun v c s => rfl
  have hr2 : ∀ (N : xM) c s s' sp dp n c' k' k, gR (cpI N c s s' sp dp n) c' k' k = gR N c' k' k := fun N c s s' sp dp n c' k' k => rfl
  have hn2 : ∀ (N : xM) c s s' sp dp n c' k', gN (cpI N c s s' sp dp n) c' k' = gN N c' k' := fun N c s s' sp dp n c' k' => rfl
  unfold F_X1_copyFrom
  simp only [Option.bind_some, hr, hn, p1, q1, n1, m1, w8, gd_t, xi0, xi8, hr2, hn2, p2, q2, n2, m2, p3, q3, n3, m3]
  rfl
theorem SeenC_cl (h1 : pd ≠ vd) (h2 : ve ≠ pd) {A : Nat → Nat} {Bv Sv : Nat → Int32} (h : SeenC e pe ve se m A Bv Sv M) : SeenC d pd vd sd m A Bv Sv (clM M d e pd vd sd pe ve se) := by
  obtain ⟨g1, g2, g3⟩ := h
  refine ⟨g1, clM_1.trans g2, fun i hi => ?_⟩
  obtain ⟨a1, a2, a3, a4, a5⟩ := g3 i hi
  exact ⟨a1, (clM_p h1 (by omega)).trans a2, (clM_v h2 (by omega)).trans a3, (clM_s (by omega)).trans a4, a5⟩
theorem Rel_sh (hB : CB C) (h : ∀ k, k < 502 → X' 95 (b' + k) = X 95 (b + k)) (hR : Rel C b D X) : Rel C b' D X' := by
  refine Rel_row (X := mvX X b b' 502) (fun k h1 h2 => ?_) hB (Rel_move hB hR)
  have := h (k - b') (by omega)
  rw [show b' + (k - b') = k by omega] at this
  rw [this]
  unfold mvX
  rw [if_neg (by omega), if_pos ⟨rfl, by omega, by omega⟩]
theorem SeenX_sh (h : ∀ k, 502 ≤ k → k < 535 → X' 95 (b' + k) = X 95 (b + k)) {A : Nat → Nat} {Bv Sv : Nat → Int32} (hS : SeenX m A Bv Sv b X) : SeenX m A Bv Sv b' X' := by
  obtain ⟨g1, g2, g3⟩ := hS
  refine ⟨g1, (h 502 (by omega) (by omega)).trans g2, fun i hi => ?_⟩
  obtain ⟨f, p, a1, a2, a3, a4, a5, a6, a7, a8⟩ := g3 i hi
  have z : ∀ o, o < 4 → X' 95 (b' + 503 + 4 * i + o) = X 95 (b + 503 + 4 * i + o) := fun o ho => by
    have := h (503 + 4 * i + o) (by omega) (by omega)
    rw [show b' + (503 + 4 * i + o) = b' + 503 + 4 * i + o by omega, show b + (503 + 4 * i + o) = b + 503 + 4 * i + o by omega] at this
    exact this
  exact ⟨f, p, a1, a2, a3, (z 0 (by omega)).trans a4, (z 1 (by omega)).trans a5, (z 2 (by omega)).trans a6, (z 3 (by omega)).trans a7, a8⟩
/-- a disk that was copied -/
theorem PDisk_mv (hB : CB C) (ht : ∀ j k, rg j k → tb d M' j k = tb e M j k) (h11 : tb d M' 14 11 = 0) (hx : ∀ k, k < 502 → tX M' 95 (b' + k) = tX M 95 (b + k)) (hr : gR M' 2 d 4 = some a) (hP : PDisk C a e b B M) : PDisk C a d b' B M' := by
  obtain ⟨L, h1, h2, h3, h4, h5, h6⟩ := hP
  refine ⟨L, h1, Inv_rg hB ht h2, Or.inl h11, Rel_rg hB ht (Rel_sh hB hx h4), hr, fun k hk => ?_⟩
  obtain ⟨c, q1, q2⟩ := h6 k hk
  exact ⟨c, q1, (ht 0 k (by unfold rg; omega)).trans q2⟩
/-- behind a change of marks or clues -/
theorem Sim_mark2 (hS : SimP C R a w n W V B M) (hLay : Lay M') (hr : ∀ c s k, c ≠ 2 → gR M' c s k = gR M c s k) (hl : ∀ s k, gL M' 21 s k = gL M 21 s k) (hb : BsM M M')
    (hx : ∀ j k, (j = 0 ∧ (k = 2 ∨ k = 26) ∨ j = 87 ∨ j = 90 ∨ j = 91 ∨ j = 92 ∨ j = 97) → tX M' j k = tX M j k) (h22 : tX M' 0 22 = i3 0 → Lk (tb 0 M') (tX M')) (hD : PDisk C a 0 0 B M') (hCl : PClue 0 44 45 6 0 M') (hMk : PMark C a B M')
    (hJ : ∀ j k, 20 ≤ j → j ≤ 24 → tb 2 M' j k = tb 2 M j k) (h14 : ∀ j k, j < 16 → tb 2 M' j k = tb 2 M j k) : SimP C R a w n W V B M' := by
  obtain ⟨s1, s2, s3, s4, s5, s6, s7, s8, s9, s10, s11, s12, s13, s14, s15⟩ := hS
  have hr90 : ∀ j, (j = 87 ∨ j = 90 ∨ j = 91 ∨ j = 92 ∨ j = 97) → ∀ k, tX M' j k = tX M j k := fun j hj k => hx j k (by omega)
  have hc : ∀ c s k, (c = 5 ∨ c = 7 ∨ c = 8 ∨ c = 9 ∨ c = 10 ∨ c = 23) → gI M' c s k = gI M c s k := fun c s k q => hb c s k (bs_c (by omega)) (by omega) (by omega) (by omega)
  have h20 : ∀ s k, s < 18 ∧ s ≠ 3 ∧ s ≠ 4 ∧ s ≠ 8 ∧ s ≠ 9 ∨ s = 46 → gI M' 20 s k = gI M 20 s k := fun s k q => hb 20 s k (bs_20 (by omega)) (by omega) (by omega) (by omega)
  obtain ⟨b1, b2, b3, b4, b5, b6, b7⟩ := s1
  refine ⟨⟨hLay, b2, b3, (hr _ _ _ (by omega)).trans b4, (hr _ _ _ (by omega)).trans b5, (hr _ _ _ (by omega)).trans b6, (hr _ _ _ (by omega)).trans b7⟩, s2, ?_, MCfg_90 s4 (hr90 90 (by omega)), RuleAs_fm s5 (hr90 90 (by omega) 4) (hr90 91 (by omega)), ?_, hD, h22, ?_, Wk_fm s10 (hr90 92 (by omega)), hCl, hMk, ?_, ?_, fun k hk => (hl _ _).trans (s15 k hk)⟩
  · obtain ⟨c1, c2, c3, c4, c5, c6, c7, c8, c9, c10, c11, c12⟩ := s3
    refine ⟨c1, c2, c3, c4, c5, (hc _ _ _ (by omega)).trans c6, (hc _ _ _ (by omega)).trans c7, (hc _ _ _ (by omega)).trans c8, (hc _ _ _ (by omega)).trans c9, (hc _ _ _ (by omega)).trans c10, fun f hf => ?_, fun i hi => (h20 _ _ (by omega)).trans (c12 i hi)⟩
    rw [h20 _ _ (by omega), h20 _ _ (by omega)]
    exact c11 f hf
  · exact PNames_cg (fun s k _ _ => hl s k) s6
  · obtain ⟨h1, h2, h3⟩ := s9
    refine ⟨(hc _ _ _ (by omega)).trans h1, h2, fun i hi => ?_⟩
    rw [h20 _ _ (by omega), h20 _ _ (by omega), h20 _ _ (by omega), h20 _ _ (by omega)]
    exact h3 i hi
  · rcases s13 with ⟨p1, p2⟩ | ⟨p1, D, p2, ⟨q1, q2, q3, q4, q5, q6⟩, p3⟩
    · exact Or.inl ⟨(hc _ _ _ (by omega)).trans p1, (hx _ _ (by omega)).trans p2⟩
    · refine Or.inr ⟨(hc _ _ _ (by omega)).trans p1, D, p2, ⟨(hc _ _ _ (by omega)).trans q1, (hc _ _ _ (by omega)).trans q2, fun k hk => (h20 _ _ (by omega)).trans (q3 k hk), fun j k hj => (hJ j k (by omega) (by omega)).trans (q4 j k hj), (h14 _ _ (by omega)).trans q5, (h14 _ _ (by omega)).trans q6⟩, ?_⟩
      rcases p3 with p3 | ⟨p3, r1, r2, r3⟩
      · exact Or.inl ((hx _ _ (by omega)).trans p3)
      · refine Or.inr ⟨(hx _ _ (by omega)).trans p3, fun j hj => (hr90 97 (by omega) j).trans (r1 j hj), fun c hc hcP m hm => ?_, fun i hi m hm => ?_⟩
        · rw [hl]; exact r2 c hc hcP m hm
        · rw [hl]; exact r3 i hi m hm
  · obtain ⟨t, p1, p2, p3, p4⟩ := s14
    refine ⟨t, p1, (hc _ _ _ (by omega)).trans p2, (hx _ _ (by omega)).trans p3, fun i hi => ?_⟩
    rw [hc _ _ _ (by omega), hr90 87 (by omega)]
    exact p4 i hi
/-- behind a mark -/
theorem Sim_mark (hS : SimP C R a w n W V B M) (hLay : Lay M') (hr : ∀ c s k, c ≠ 2 → gR M' c s k = gR M c s k) (hl : ∀ s k, gL M' 21 s k = gL M 21 s k) (hb : BsM M M')
    (hx : ∀ j k, (j = 0 ∧ (k = 2 ∨ k = 26) ∨ j = 87 ∨ j = 90 ∨ j = 91 ∨ j = 92 ∨ j = 97) → tX M' j k = tX M j k) (h22 : tX M' 0 22 = -1) (hD : PDisk C a 0 0 B M') (hCl : PClue 0 44 45 6 0 M') (hMk : PMark C a B M')
    (hJ : ∀ j k, 20 ≤ j → j ≤ 24 → tb 2 M' j k = tb 2 M j k) (h14 : ∀ j k, j < 16 → tb 2 M' j k = tb 2 M j k) : SimP C R a w n W V B M' :=
  Sim_mark2 hS hLay hr hl hb hx (fun q => by rw [h22] at q; exact absurd q (by decide)) hD hCl hMk hJ h14
end
