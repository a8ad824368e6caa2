/-! ===== what a disk's deed leaves alone ===== -/
/-- a cell that no disk's table and no row of the reference holds -/
def bs (c s : Nat) : Prop := (∀ d : Fin 5, own d c s = none) ∧ mow c s = none
def BsEq (M M' : xM) : Prop := ∀ c s k, bs c s → gI M' c s k = gI M c s k
/-- the same, but for the judge's own cells -/
def BsJ (M M' : xM) : Prop := ∀ c s k, bs c s → c ≠ 5 → (c ≠ 20 ∨ s ≠ 46) → gI M' c s k = gI M c s k
section
variable {M M' : xM} {D E X X' : xT} {C : xC} {R Bv S : Nat → Int32} {d e fu n m i j o p q a c k l s w K P L L' b B B' : Nat} {v x y : Int32} {W A : Nat → Nat} {V : Nat → Nat → Int32}
theorem bs_c (h : c ≠ 20 ∧ c ≠ 22 ∧ c ≠ 2 ∧ c ≠ 0 ∧ c ≠ 3 ∧ c ≠ 12) : bs c s := by
  refine ⟨fun d => ?_, ?_⟩
  · unfold own; rw [if_neg h.1, if_neg h.2.1, if_neg h.2.2.1, if_neg h.2.2.2.1, if_neg h.2.2.2.2.1]
  · unfold mow; rw [if_neg h.2.2.2.2.2, if_neg h.1, if_neg h.2.1]
theorem bs_20d : ∀ s : Fin 87, ((s : Nat) < 18 ∧ (s : Nat) ≠ 3 ∧ (s : Nat) ≠ 4 ∧ (s : Nat) ≠ 8 ∧ (s : Nat) ≠ 9 ∨ 44 ≤ (s : Nat) ∧ (s : Nat) ≤ 46 ∨ 83 ≤ (s : Nat)) → (∀ d : Fin 5, own d 20 s = none) ∧ mow 20 s = none := by decide +kernel
theorem bs_20 (h : s < 18 ∧ s ≠ 3 ∧ s ≠ 4 ∧ s ≠ 8 ∧ s ≠ 9 ∨ 44 ≤ s ∧ s ≤ 46 ∨ 83 ≤ s ∧ s < 87) : bs 20 s := bs_20d ⟨s, by omega⟩ (by show s < 18 ∧ s ≠ 3 ∧ s ≠ 4 ∧ s ≠ 8 ∧ s ≠ 9 ∨ 44 ≤ s ∧ s ≤ 46 ∨ 83 ≤ s; omega)
theorem bs_22d : ∀ s : Fin 20, ((s : Nat) = 6 ∨ 17 ≤ (s : Nat)) → (∀ d : Fin 5, own d 22 s = none) ∧ mow 22 s = none := by decide +kernel
theorem bs_22 (h : s = 6 ∨ 17 ≤ s ∧ s < 20) : bs 22 s := bs_22d ⟨s, by omega⟩ (by show s = 6 ∨ 17 ≤ s; omega)
theorem bs_emb (hd : d < 5) : BsEq M (emb d D M) := fun c s k h => gI_not (h.1 ⟨d, hd⟩)
theorem bs_mmb : BsEq M (mmb X M) := fun c s k h => mI_not h.2
theorem bsJ (h : BsEq M M') : BsJ M M' := fun c s k q _ _ => h c s k q
theorem bs_tr {N : xM} (h : BsEq M M') (h2 : BsEq M' N) : BsEq M N := fun c s k q => (h2 c s k q).trans (h c s k q)
theorem Cfg_bs (h : BsJ M M') (ha : a < 2) (hC : Cfg C R a M) : Cfg C R a M' := by
  obtain ⟨c1, c2, c3, c4, c5, c6, c7, c8, c9, c10, c11, c12⟩ := hC
  have e7 : ∀ k, gI M' 7 a k = gI M 7 a k := fun k => h _ _ _ (bs_c (by omega)) (by omega) (by omega)
  have e8 : ∀ k, gI M' 8 a k = gI M 8 a k := fun k => h _ _ _ (bs_c (by omega)) (by omega) (by omega)
  have e20 : ∀ j, j < 3 → ∀ k, gI M' 20 (5 * a + j) k = gI M 20 (5 * a + j) k := fun j hj k => h _ _ _ (bs_20 (by omega)) (by omega) (by omega)
  refine ⟨c1, c2, c3, c4, c5, (e7 _).trans c6, (e7 _).trans c7, (e7 _).trans c8, (e7 _).trans c9, (e8 _).trans c10, fun f hf => ?_, fun i hi => (e20 2 (by omega) _).trans (c12 i hi)⟩
  rw [e20 0 (by omega), e20 1 (by omega)]
  exact c11 f hf
theorem WkC_bs (h : BsJ M M') (hw : w < 2) (hW : WkC n W V w M) : WkC n W V w M' := by
  obtain ⟨h1, h2, h3⟩ := hW
  have e20 : ∀ j, j < 4 → ∀ k, gI M' 20 (10 + 4 * w + j) k = gI M 20 (10 + 4 * w + j) k := fun j hj k => h _ _ _ (bs_20 (by omega)) (by omega) (by omega)
  refine ⟨(h _ _ _ (bs_c (by omega)) (by omega) (by omega)).trans h1, h2, fun i hi => ?_⟩
  rw [e20 0 (by omega), e20 1 (by omega), e20 2 (by omega), e20 3 (by omega)]
  exact h3 i hi
theorem SeenC_bs (h : BsJ M M') (hp : bs 20 p) (hv : bs 20 q) (hs : bs 22 s) (hp6 : p ≠ 46) (hq6 : q ≠ 46) (hS : SeenC c p q s m A Bv S M) : SeenC c p q s m A Bv S M' := by
  obtain ⟨h1, h2, h3⟩ := hS
  refine ⟨h1, (h _ _ _ (bs_c (by omega)) (by omega) (by omega)).trans h2, fun i hi => ?_⟩
  rw [h _ _ _ hp (by omega) (by omega), h _ _ _ hv (by omega) (by omega), h _ _ _ hs (by omega) (by omega)]
  exact h3 i hi
theorem PBase_2 (h : M'.2 = M.2) (hP : PBase a w M) : PBase a w M' := by
  have hR : ∀ c s k, gR M' c s k = gR M c s k := fun c s k => by unfold gR; rw [h]
  have hN : ∀ c s, gN M' c s = gN M c s := fun c s => by unfold gN; rw [h]
  obtain ⟨h1, h2, h3, h4, h5, h6, h7⟩ := hP
  refine ⟨⟨fun c s k v q => (hR c s k).trans (h1.1 c s k v q), fun c s n q => (hN c s).trans (h1.2 c s n q)⟩, h2, h3, ?_, ?_, ?_, ?_⟩
  · rw [hR]; exact h4
  · rw [hR]; exact h5
  · rw [hR]; exact h6
  · rw [hR]; exact h7
theorem gL_2 (h : M'.2 = M.2) : gL M' c s k = gL M c s k := by unfold gL; rw [h]
theorem gR_2 (h : M'.2 = M.2) : gR M' c s k = gR M c s k := by unfold gR; rw [h]
theorem PNames_cg (h : ∀ s k, (s = a ∨ s = 4) → k < C 0 3 → gL M' 21 s k = gL M 21 s k) (hP : PNames C a M) : PNames C a M' := by
  obtain ⟨nm, h1, h2⟩ := hP
  refine ⟨nm, fun k hk => ?_, h2⟩
  obtain ⟨g1, g2, g3, g4⟩ := h1 k hk
  exact ⟨g1, g2, (h a k (Or.inl rfl) hk).trans g3, (h 4 k (Or.inr rfl) hk).trans g4⟩
theorem PNames_2 (h : M'.2 = M.2) (hP : PNames C a M) : PNames C a M' := PNames_cg (fun _ _ _ _ => gL_2 h) hP
theorem PWords_2 (h : M'.2 = M.2) (hP : PWords M) : PWords M' := fun k hk => (gL_2 h).trans (hP k hk)
/-- a disk that isn't touched -/
theorem PDisk_cg (hB : CB C) (hBB : B ≤ B') (ht : ∀ j k, j < 16 → tb d M' j k = tb d M j k) (hx : ∀ k, b ≤ k → k < b + 502 → tX M' 95 k = tX M 95 k) (hr : gR M' 2 d 4 = gR M 2 d 4) (hP : PDisk C a d b B M) : PDisk C a d b B' M' := by
  obtain ⟨L, h1, h2, h3, h4, h5, h6⟩ := hP
  refine ⟨L, by omega, Inv_lo ht h2, InV_lo ht h3, Rel_D ht (Rel_row hx hB h4), hr.trans h5, fun k hk => ?_⟩
  obtain ⟨c, q1, q2⟩ := h6 k hk
  exact ⟨c, by omega, (ht 0 k (by omega)).trans q2⟩
theorem PClue_cg (h : BsJ M M') (hp : bs 20 p) (hv : bs 20 o) (hs : bs 22 s) (hp6 : p ≠ 46) (ho6 : o ≠ 46) (hx : ∀ k, q + 502 ≤ k → k < q + 535 → tX M' 95 k = tX M 95 k) (hP : PClue c p o s q M) : PClue c p o s q M' := by
  obtain ⟨m, A, Bv, S, h1, h2⟩ := hP
  exact ⟨m, A, Bv, S, SeenC_bs h hp hv hs hp6 ho6 h1, Seen_row hx h2⟩
theorem PMark_cg (hB : CB C) (hBB : B ≤ B') (h : BsJ M M') (ht : ∀ d j k, 3 ≤ d → d < 5 → j < 16 → tb d M' j k = tb d M j k) (hx : ∀ k, 535 ≤ k → k < 1605 → tX M' 95 k = tX M 95 k) (h1 : ∀ k, tX M' 1 k = tX M 1 k)
    (hr : ∀ d, 3 ≤ d → d < 5 → gR M' 2 d 4 = gR M 2 d 4) (hP : PMark C a B M) : PMark C a B' M' := by
  intro k hk
  obtain ⟨p1, p2⟩ := hP k hk
  have e := h 22 19 k (bs_22 (by omega)) (by omega) (by omega)
  refine ⟨by rw [e, h1]; exact p1, ?_⟩
  rcases p2 with p2 | ⟨p2, p3, p4⟩
  · exact Or.inl (e.trans p2)
  · exact Or.inr ⟨e.trans p2, PDisk_cg hB hBB (fun j k' hj => ht _ _ _ (by omega) (by omega) hj) (fun k' a1 a2 => hx _ (by omega) (by omega)) (hr _ (by omega) (by omega)) p3, PClue_cg h (bs_20 (by omega)) (bs_20 (by omega)) (bs_22 (by omega)) (by omega) (by omega) (fun k' a1 a2 => hx _ (by omega) (by omega)) p4⟩
theorem PJudge_cg (h : BsEq M M') (ht : ∀ j k, (20 ≤ j ∧ j ≤ 22 ∨ j = 24) → tb 2 M' j k = tb 2 M j k) (h15 : tb 2 M' 15 3 = tb 2 M 15 3) (h14 : tb 2 M' 14 3 = tb 2 M 14 3) (h26 : tX M' 0 26 = tX M 0 26) (h97 : ∀ k, tX M' 97 k = tX M 97 k) (hl : ∀ s k, (s = 5 ∨ s = 6) → gL M' 21 s k = gL M 21 s k)
    (hP : PJudge C R a n W V M) : PJudge C R a n W V M' := by
  have e5 : ∀ k, gI M' 5 0 k = gI M 5 0 k := fun k => h _ _ _ (bs_c (by omega))
  rcases hP with ⟨p1, p2⟩ | ⟨p1, D, p2, ⟨q1, q2, q3, q4, q5, q6⟩, p3⟩
  · exact Or.inl ⟨(e5 _).trans p1, h26.trans p2⟩
  · refine Or.inr ⟨(e5 _).trans p1, D, p2, ⟨(e5 _).trans q1, (e5 _).trans q2, fun k hk => (h _ _ _ (bs_20 (by omega))).trans (q3 k hk), fun j k hj => (ht j k hj).trans (q4 j k hj), h15.trans q5, h14.trans q6⟩, ?_⟩
    rcases p3 with p3 | ⟨p3, r1, r2, r3⟩
    · exact Or.inl (h26.trans p3)
    · refine Or.inr ⟨h26.trans p3, fun j hj => (h97 j).trans (r1 j hj), fun c hc hcP m hm => ?_, fun i hi m hm => ?_⟩
      · rw [hl _ _ (Or.inl rfl)]; exact r2 c hc hcP m hm
      · rw [hl _ _ (Or.inr rfl)]; exact r3 i hi m hm
theorem PTape_cg (h : BsJ M M') (h2 : tX M' 0 2 = tX M 0 2) (h87 : ∀ k, tX M' 87 k = tX M 87 k) (hP : PTape M) : PTape M' := by
  obtain ⟨t, p1, p2, p3, p4⟩ := hP
  refine ⟨t, p1, (h _ _ _ (bs_c (by omega)) (by omega) (by omega)).trans p2, h2.trans p3, fun i hi => ?_⟩
  rw [h _ _ _ (bs_c (by omega)) (by omega) (by omega), h87]
  exact p4 i hi
theorem mrow_of (h : j = 0 ∨ j = 1 ∨ j = 87 ∨ j = 90 ∨ j = 91 ∨ j = 92 ∨ j = 95 ∨ j = 97) : mrow j := by unfold mrow; omega
/-- behind a deed of the store's disk -/
theorem Sim_deed (hS : SimP C R a w n W V B M) (hBB : B ≤ B') (hL : L' ≤ B') (hI : Inv C L' E) (hV : InV C E) (hR : Rel C 0 E X') (hK : KE E (tb 0 M)) (hF : Fm 0 (up (tX M) 0 0 v) X') (hLk : X' 0 22 = i3 0 → Lk E X') (hW : ∀ k, k < 6 → ∃ c, c ≤ B' ∧ E 0 k = i3 c) :
    SimP C R a w n W V B' (mmb X' (emb 0 E M)) := by
  obtain ⟨s1, s2, s3, s4, s5, s6, s7, s8, s9, s10, s11, s12, s13, s14, s15⟩ := hS
  have hbs : BsEq M (mmb X' (emb 0 E M)) := bs_tr (bs_emb (by omega)) bs_mmb
  have hbj : BsJ M (mmb X' (emb 0 E M)) := bsJ hbs
  have h2 : (mmb X' (emb 0 E M)).2 = M.2 := rfl
  have ht0 : ∀ j k, j < 29 → tb 0 (mmb X' (emb 0 E M)) j k = E j k := fun j k hj => by rw [tb_mmb (by omega)]; exact tb_own (by omega) hj
  have hto : ∀ d j k, 0 < d → d < 5 → j < 16 → tb d (mmb X' (emb 0 E M)) j k = tb d M j k := fun d j k h1 h2 hj => by rw [tb_mmb h2]; exact tb_oth h2 (by omega) (by omega) hj
  have hx : ∀ j k, mrow j → tX (mmb X' (emb 0 E M)) j k = X' j k := fun j k hj => tX_mmb hj
  have hf : ∀ j k, mrow j → (j ≠ 0 ∨ 0 < k ∧ k < 20 ∨ 22 < k) → j ≠ 93 → j ≠ 94 → j ≠ 95 → j ≠ 96 → tX (mmb X' (emb 0 E M)) j k = tX M j k := fun j k h0 h1 h2 h3 h4 h5 => (hx j k h0).trans ((hF.1 j k (by omega) h2 h3 h4 h5).trans (up_ne (by omega)))
  have hf95 : ∀ k, 502 ≤ k → tX (mmb X' (emb 0 E M)) 95 k = tX M 95 k := fun k hk => ((hx 95 k (mrow_of (by omega))).trans (hF.2.1 k (by omega))).trans (up_ne (by omega))
  have hr : ∀ j, (j = 1 ∨ j = 87 ∨ j = 90 ∨ j = 91 ∨ j = 92 ∨ j = 97) → ∀ k, tX (mmb X' (emb 0 E M)) j k = tX M j k := fun j hj k => hf j k (mrow_of (by omega)) (by omega) (by omega) (by omega) (by omega) (by omega)
  refine ⟨PBase_2 h2 s1, s2, Cfg_bs hbj s1.2.1 s3, MCfg_90 s4 (hr 90 (by omega)), RuleAs_fm s5 (hr 90 (by omega) 4) (hr 91 (by omega)), PNames_2 h2 s6, ?_, ?_, WkC_bs hbj s1.2.2.1 s9, Wk_fm s10 (hr 92 (by omega)), PClue_cg hbj (bs_20 (by omega)) (bs_20 (by omega)) (bs_22 (by omega)) (by omega) (by omega) (fun k h1 h2 => hf95 k (by omega)) s11, ?_, ?_, ?_, PWords_2 h2 s15⟩
  · obtain ⟨L0, q1, q2, q3, q4, q5⟩ := s7
    refine ⟨L', hL, Inv_lo (fun j k hj => ht0 j k (by omega)) hI, InV_lo (fun j k hj => ht0 j k (by omega)) hV, Rel_D (fun j k hj => ht0 j k (by omega)) (Rel_row (fun k _ _ => hx 95 k (mrow_of (by omega))) s2 hR), q5.1, fun k hk => ?_⟩
    obtain ⟨c, r1, r2⟩ := hW k hk
    exact ⟨c, r1, (ht0 0 k (by omega)).trans r2⟩
  · intro q
    rw [hx 0 22 (mrow_of (by omega))] at q
    have := hLk q
    unfold Lk at this ⊢
    rw [hx 0 20 (mrow_of (by omega)), hx 0 21 (mrow_of (by omega)), show fsN (tb 0 (mmb X' (emb 0 E M))) = fsN E by unfold fsN wpN bsN; rw [ht0 _ _ (by omega), ht0 _ _ (by omega)], show wpN (tb 0 (mmb X' (emb 0 E M))) = wpN E by unfold wpN; rw [ht0 _ _ (by omega)]]
    exact this
  · exact PMark_cg s2 hBB hbj (fun d j k h1 h2 hj => hto d j k (by omega) h2 hj) (fun k h1 h2 => hf95 k (by omega)) (hr 1 (by omega)) (fun d h1 h2 => rfl) s12
  · refine PJudge_cg hbs (fun j k hj => ?_) (hto 2 15 3 (by omega) (by omega) (by omega)) (hto 2 14 3 (by omega) (by omega) (by omega)) (hf 0 26 (mrow_of (by omega)) (by omega) (by omega) (by omega) (by omega) (by omega)) (hr 97 (by omega)) (fun s k _ => rfl) s13
    rw [tb_mmb (by omega), tb_sh (by omega) (by omega) (by omega) (by omega), hK j k (by omega) (by omega)]
    exact tb_one (by omega) (by omega) (by omega)
  · exact PTape_cg hbj (hf 0 2 (mrow_of (by omega)) (by omega) (by omega) (by omega) (by omega) (by omega)) (hr 87 (by omega)) s14
/-- what no call but a deed changes: the disk as it was but for its survey, all else as it was but for the judge's and the reference's scratch -/
def Cl (C : xC) (M N : xM) : Prop := Lay N ∧ BsJ M N ∧ (∀ j k, j < 16 → j ≠ 10 → j ≠ 13 → (j ≠ 14 ∨ k ≠ 11 ∧ k ≠ 14 ∧ k ≠ 15) → tb 0 N j k = tb 0 M j k) ∧ InV C (tb 0 N) ∧ (∀ d j k, 3 ≤ d → d < 5 → j < 16 → tb d N j k = tb d M j k) ∧
  (∀ c s k, (c ≠ 2 ∨ s = 0 ∨ s = 3 ∨ s = 4) → gR N c s k = gR M c s k) ∧ (∀ s k, s < 5 → gL N 21 s k = gL M 21 s k)
def FmR (X X' : xT) : Prop := (∀ j k, (j = 0 ∧ (k = 2 ∨ k = 26) ∨ j = 1 ∨ j = 87 ∨ j = 90 ∨ j = 91 ∨ j = 92) → (j ≠ 0 ∨ k ≠ 26) → X' j k = X j k) ∧ ∀ k, k < 1605 → X' 95 k = X 95 k
theorem Inv_sv (h : ∀ j k, j < 16 → j ≠ 10 → j ≠ 13 → (j ≠ 14 ∨ k ≠ 11 ∧ k ≠ 14 ∧ k ≠ 15) → E j k = D j k) (hI : Inv C L D) : Inv C L E := by
  have h1 : Inv C L (fun j k => if j < 16 then E j k else D j k) := Inv_same hI (fun j k q1 q2 q3 q4 => by
    show (if j < 16 then E j k else D j k) = D j k
    by_cases c : j < 16
    · rw [if_pos c]; exact h j k c q1 q2 q3
    · rw [if_neg c])
  refine Inv_lo (fun j k hj => ?_) h1
  show E j k = if j < 16 then E j k else D j k
  rw [if_pos hj]
theorem Rel_sv (h : ∀ j k, j < 16 → j ≠ 10 → j ≠ 13 → (j ≠ 14 ∨ k ≠ 11 ∧ k ≠ 14 ∧ k ≠ 15) → E j k = D j k) (hR : Rel C b D X) : Rel C b E X := by
  have e11 : E 11 = D 11 := funext fun k => h _ _ (by omega) (by omega) (by omega) (by omega)
  have e12 : E 12 = D 12 := funext fun k => h _ _ (by omega) (by omega) (by omega) (by omega)
  obtain ⟨g0, g1, g2, g3, g4, g5, g6, g7, g8, g9⟩ := hR
  refine ⟨?_, ?_, ?_, ?_, by rw [e11]; exact g4, by rw [e12]; exact g5, ?_, fun k hk => ?_, fun k hk => ?_, fun s hs => ?_⟩
  · rw [h _ _ (by omega) (by omega) (by omega) (by omega)]; exact g0
  · rw [h _ _ (by omega) (by omega) (by omega) (by omega)]; exact g1
  · rw [h _ _ (by omega) (by omega) (by omega) (by omega)]; exact g2
  · rw [h _ _ (by omega) (by omega) (by omega) (by omega)]; exact g3
  · rw [h _ _ (by omega) (by omega) (by omega) (by omega)]; exact g6
  · rw [h _ _ (by omega) (by omega) (by omega) (by omega)]; exact g7 k hk
  · rw [h _ _ (by omega) (by omega) (by omega) (by omega)]; exact g8 k hk
  · obtain ⟨u1, u2, u3⟩ := g9 s hs
    rw [h 2 _ (by omega) (by omega) (by omega) (by omega), h 3 _ (by omega) (by omega) (by omega) (by omega), h 4 _ (by omega) (by omega) (by omega) (by omega), h 5 _ (by omega) (by omega) (by omega) (by omega), h 6 _ (by omega) (by omega) (by omega) (by omega)]
    refine ⟨u1, u2, fun w n hn hl => ?_⟩
    rw [h 7 _ (by omega) (by omega) (by omega) (by omega), h 8 _ (by omega) (by omega) (by omega) (by omega)]
    exact u3 w n hn hl
theorem Sim_cl (hS : SimP C R a w n W V B M) (hc : Cl C M M') (hx : FmR (tX M) (tX M')) (hLk : tX M' 0 22 = i3 0 → Lk (tb 0 M) (tX M')) (hJ : PJudge C R a n W V M') : SimP C R a w n W V B M' := by
  obtain ⟨s1, s2, s3, s4, s5, s6, s7, s8, s9, s10, s11, s12, s13, s14, s15⟩ := hS
  obtain ⟨c1, c2, c3, c4, c5, c6, c7⟩ := hc
  have hr : ∀ j, (j = 1 ∨ j = 87 ∨ j = 90 ∨ j = 91 ∨ j = 92) → ∀ k, tX M' j k = tX M j k := fun j hj k => hx.1 j k (by omega) (by omega)
  obtain ⟨b1, b2, b3, b4, b5, b6, b7⟩ := s1
  refine ⟨⟨c1, b2, b3, ?_, ?_, ?_, ?_⟩, s2, Cfg_bs c2 b2 s3, MCfg_90 s4 (hr 90 (by omega)), RuleAs_fm s5 (hr 90 (by omega) 4) (hr 91 (by omega)), ?_, ?_, ?_, WkC_bs c2 b3 s9, Wk_fm s10 (hr 92 (by omega)), PClue_cg c2 (bs_20 (by omega)) (bs_20 (by omega)) (bs_22 (by omega)) (by omega) (by omega) (fun k h1 h2 => hx.2 k (by omega)) s11, ?_, hJ, ?_, ?_⟩
  · rw [c6 _ _ _ (by omega)]; exact b4
  · rw [c6 _ _ _ (by omega)]; exact b5
  · rw [c6 _ _ _ (by omega)]; exact b6
  · rw [c6 _ _ _ (by omega)]; exact b7
  · exact PNames_cg (fun s k q _ => c7 s k (by omega)) s6
  · obtain ⟨L0, q1, q2, q3, q4, q5⟩ := s7
    refine ⟨L0, q1, Inv_sv c3 q2, c4, Rel_sv c3 (Rel_row (fun k _ _ => hx.2 k (by omega)) s2 q4), (c6 _ _ _ (by omega)).trans q5.1, fun k hk => ?_⟩
    obtain ⟨c, r1, r2⟩ := q5.2 k hk
    exact ⟨c, r1, (c3 0 k (by omega) (by omega) (by omega) (by omega)).trans r2⟩
  · intro q
    have := hLk q
    unfold Lk at this ⊢
    rw [show fsN (tb 0 M') = fsN (tb 0 M) by unfold fsN wpN bsN; rw [c3 _ _ (by omega) (by omega) (by omega) (by omega), c3 _ _ (by omega) (by omega) (by omega) (by omega)], show wpN (tb 0 M') = wpN (tb 0 M) by unfold wpN; rw [c3 _ _ (by omega) (by omega) (by omega) (by omega)]]
    exact this
  · exact PMark_cg s2 (Nat.le_refl _) c2 (fun d j k h1 h2 hj => c5 d j k h1 h2 hj) (fun k h1 h2 => hx.2 k (by omega)) (hr 1 (by omega)) (fun d h1 h2 => c6 _ _ _ (by omega)) s12
  · exact PTape_cg c2 (hx.1 0 2 (by omega) (by omega)) (hr 87 (by omega)) s14
  · exact fun k hk => (c7 _ _ (by omega)).trans (s15 k hk)
end
