/-! ===== a WORK told: what stays ===== -/
def keepW (a c s : Nat) : Prop := c = 1 ∨ c = 7 ∧ s = a ∨ c = 8 ∧ s = a ∨ c = 20 ∧ (5 * a ≤ s ∧ s < 5 * a + 3 ∨ 44 ≤ s ∧ s ≤ 45 ∨ 83 ≤ s ∧ s ≤ 86) ∨ c = 22 ∧ (s = 6 ∨ 17 ≤ s ∧ s ≤ 19)
section
variable {M M' M1 N : xM} {X Y Y' Y1 : xT} {f : Nat → Nat} {fu l t T n i j k d s x a b w F e m g n' w' B : Nat} {c ls : List Nat} {q : Nat × Nat} {u v y0 : Int32} {nm : Nat → List Nat} {D : Nat → Nat → Nat} {C : xC} {R : Nat → Int32} {W W' : Nat → Nat} {V V' : Nat → Nat → Int32} {o : Option Nat}
theorem gR_sR {c s k c' s' k' : Nat} : gR (sR M c s k o) c' s' k' = if c' = c ∧ s' = s ∧ k' = k then o else gR M c' s' k' := rfl
theorem Lay_sR {c s k : Nat} (h : Lay M) (hr : rT c s k = none) : Lay (sR M c s k o) := ⟨fun c' s' k' v' hv => by
  by_cases q : c' = c ∧ s' = s ∧ k' = k
  · obtain ⟨rfl, rfl, rfl⟩ := q
    rw [hr] at hv; cases hv
  · rw [gR_sR, if_neg q]; exact h.1 c' s' k' v' hv, h.2⟩
theorem Sim_wk (hS : SimP C R a w n W V B M) (hw : w' < 2) (h1 : Lay M') (h3 : gR M' 11 0 3 = some w') (h4 : gR M' 11 0 4 = some (1 - w')) (h2 : ∀ c s k, (c ≠ 11 ∨ k ≠ 3 ∧ k ≠ 4) → gR M' c s k = gR M c s k)
    (hl : ∀ s k, (s = a ∨ s = 3 ∨ s = 4 ∧ k < 5) → gL M' 21 s k = gL M 21 s k) (hk : ∀ c s k, keepW a c s → gI M' c s k = gI M c s k) (ht : ∀ d, d < 5 → tb d M' = tb d M)
    (h6 : ∀ j k, (j = 0 ∧ (20 ≤ k ∧ k ≤ 22) ∨ j = 1 ∨ j = 90 ∧ k < 20 ∨ j = 95) → tX M' j k = tX M j k) (hU : RuleAs C R (tX M')) (hC : WkC n' W' V' w' M') (hA : WkAs n' W' V' (tX M')) (h5 : gI M' 5 0 5 = 0) (h26 : tX M' 0 26 = 0) (hT : PTape M') : SimP C R a w' n' W' V' B M' := by
  obtain ⟨s1, s2, s3, s4, s5, s6, s7, s8, s9, s10, s11, s12, s13, s14, s15⟩ := hS
  have h95 : ∀ k, tX M' 95 k = tX M 95 k := fun k => h6 95 k (by omega)
  obtain ⟨b1, b2, b3, b4, b5, b6, b7⟩ := s1
  have hcl : ∀ c p v s b, (c = 0 ∧ p = 44 ∧ v = 45 ∧ s = 6 ∨ (c = 1 ∨ c = 2) ∧ (p = 83 ∨ p = 85) ∧ (v = 84 ∨ v = 86) ∧ (s = 17 ∨ s = 18)) → PClue c p v s b M → PClue c p v s b M' := fun c p v s b hc ⟨m, A, Bv, S, g1, g2⟩ =>
    ⟨m, A, Bv, S, SeenC_at (hk _ _ _ (by unfold keepW; omega)) (fun k => hk _ _ _ (by unfold keepW; omega)) (fun k => hk _ _ _ (by unfold keepW; omega)) (fun k => hk _ _ _ (by unfold keepW; omega)) g1, Seen_row (fun k _ _ => h95 k) g2⟩
  refine ⟨⟨h1, b2, hw, (h2 _ _ _ (by omega)).trans b4, (h2 _ _ _ (by omega)).trans b5, h3, h4⟩, s2, ?_, MCfg_20 s2 s4 (fun k hk => h6 90 k (by omega)), hU, ?_, PDisk_cg s2 (Nat.le_refl _) (fun j k hj => by rw [ht 0 (by omega)]) (fun k _ _ => h95 k) (h2 _ _ _ (by omega)) s7, fun q => ?_, hC, hA, hcl _ _ _ _ _ (by omega) s11, ?_, Or.inl ⟨h5, h26⟩, hT, fun k hk => (hl _ _ (by omega)).trans (s15 k hk)⟩
  · obtain ⟨c1, c2, c3, c4, c5, c6, c7, c8, c9, c10, c11, c12⟩ := s3
    refine ⟨c1, c2, c3, c4, c5, (hk _ _ _ (by unfold keepW; omega)).trans c6, (hk _ _ _ (by unfold keepW; omega)).trans c7, (hk _ _ _ (by unfold keepW; omega)).trans c8, (hk _ _ _ (by unfold keepW; omega)).trans c9, (hk _ _ _ (by unfold keepW; omega)).trans c10, fun f hf => ?_, fun i hi => (hk _ _ _ (by unfold keepW; omega)).trans (c12 i hi)⟩
    rw [hk _ _ _ (by unfold keepW; omega), hk _ _ _ (by unfold keepW; omega)]
    exact c11 f hf
  · have c5 := s2.2.2.2.1
    exact PNames_cg (fun s k q hk => hl s k (by omega)) s6
  · rw [h6 0 22 (by omega)] at q
    have := s8 q
    unfold Lk at this ⊢
    rw [h6 0 20 (by omega), h6 0 21 (by omega), ht 0 (by omega)]
    exact this
  · intro k hk2
    obtain ⟨p1, p2⟩ := s12 k hk2
    have e19 : gI M' 22 19 k = gI M 22 19 k := hk _ _ _ (by unfold keepW; omega)
    rw [e19, h6 1 k (by omega)]
    refine ⟨p1, ?_⟩
    rcases p2 with p2 | ⟨p2, p3, p4⟩
    · exact Or.inl p2
    · exact Or.inr ⟨p2, PDisk_cg s2 (Nat.le_refl _) (fun j i hj => by rw [ht (3 + k) (by omega)]) (fun i _ _ => h95 i) (h2 _ _ _ (by omega)) p3, hcl _ _ _ _ _ (by omega) p4⟩
/-! what lies on the tape -/
theorem tape_f (h : PTape M) (hL : Lay M) : ∃ f t, TpC f t M ∧ tX M 0 2 = i3 t ∧ t ≤ 1000 ∧ ∀ i, i < t → tX M 87 i = i3 (f i) ∧ (f i = 10 ∨ 32 ≤ f i ∧ f i ≤ 126) := by
  obtain ⟨t, t1, t2, t3, t4⟩ := h
  have hx : ∀ i, ∃ c, i < t → tX M 87 i = i3 c ∧ (c = 10 ∨ 32 ≤ c ∧ c ≤ 126) := fun i => by
    by_cases c : i < t
    · obtain ⟨e, c', g1, g2⟩ := t4 i c
      exact ⟨c', fun _ => ⟨g2, g1⟩⟩
    · exact ⟨0, fun z => absurd z c⟩
  have key : ∀ i, i < t → tX M 87 i = i3 (Classical.choose (hx i)) ∧ (Classical.choose (hx i) = 10 ∨ 32 ≤ Classical.choose (hx i) ∧ Classical.choose (hx i) ≤ 126) := fun i => Classical.choose_spec (hx i)
  exact ⟨fun i => Classical.choose (hx i), t, ⟨hL, t1, t2, fun i hi => ⟨(t4 i hi).1.trans (key i hi).1, (key i hi).2⟩⟩, t3, t1, key⟩
theorem t_cutAll (hf : 1100 < fu) (h : Lay N) (hW : PWords N) (h2 : X 0 2 = i3 t) (ht : t ≤ 1000) (hx : ∀ i, i < t → X 87 i = i3 (f i) ∧ (f i = 10 ∨ 32 ≤ f i ∧ f i ≤ 126)) :
    ∃ Y' N' T, F_X12_cutAll fu 0 (mmb X N) = some (mmb Y' N') ∧ LnF N N' ∧ LnX f t T (0, 0) Y' N' ∧ tS f t T = t ∧ Y' 0 2 = 0 ∧ ∀ j k, j ≠ 88 → j ≠ 89 → (j ≠ 0 ∨ k ≠ 2 ∧ k ≠ 3 ∧ k ≠ 7 ∧ k ≠ 8) → Y' j k = X j k := by
  obtain ⟨Y', N', T, r1, r2, r3, r4, r5, r6, r7, r8, r9, r10⟩ := t_cut17 (f := f) (t := t) (N0 := N) (X := up (up X 0 3 (i3 t)) 0 2 0) hf fu 0 0 (up (up X 0 3 (i3 t)) 0 2 0) N (by omega) (by omega) (by omega) ⟨h, rfl, fun _ _ _ => rfl, fun _ _ => rfl, fun _ _ _ _ => rfl⟩ ⟨ht, (up_ne (by omega)).trans up_eq, fun i hi => by rw [up_ne (by omega), up_ne (by omega)]; exact hx i hi⟩ (fun j hj => absurd hj (Nat.not_lt_zero _)) rfl (fun _ _ _ _ => rfl)
  refine ⟨Y', N', T, ?_, r2, ⟨⟨r2.1, fun k hk => (r2.2.2.2.2 _ _ _ (by omega)).trans (hW k hk), r3, r4, r5, ht, fun j hj => ?_, r6, r7, r8, Nat.zero_le _, r9⟩, by decide⟩, r4, (r10 0 2 (by omega) (by omega) (by omega)).trans up_eq, fun j k h1 h2 h3 => ?_⟩
  · unfold F_X12_cutAll
    simp only [m_0, p_0, h2]
    exact r1
  · have := (hx j hj).2; omega
  · by_cases c : j = 0 ∧ (k = 7 ∨ k = 8)
    · omega
    · rw [r10 j k h1 h2 (by omega), up_ne (by omega), up_ne (by omega)]
end
