/-! ===== a put, cut and noted ===== -/
/-- alike for the finder -/
def Ag (E D : xT) : Prop := (∀ j k, (2 ≤ j ∧ j ≤ 8 ∨ 16 ≤ j ∧ j ≤ 19) → E j k = D j k) ∧ E 15 5 = D 15 5 ∧ E 15 6 = D 15 6
/-- the same nodes -/
def SameN (C : xC) (E D : xT) : Prop := ∀ o, o < tot C → (isN E o ↔ isN D o) ∧ (isN D o → E 2 o = D 2 o ∧ E 3 o = D 3 o ∧ E 4 o = D 4 o ∧ E 5 o = D 5 o ∧ E 6 o = D 6 o ∧ ∀ i, i < 4 → E 7 (o * 4 + i) = D 7 (o * 4 + i) ∧ E 8 (o * 4 + i) = D 8 (o * 4 + i))
section
variable {M : xM} {D E X Y Z T N X' E' E0 : xT} {C : xC} {R G G' : Nat → Int32} {fu b d L L' s o t k n m i j p q f l w nb nw a r g c e K P Q : Nat} {x y z v u : Int32} {nt : Bool}
theorem Ag_up (h : Ag E D) (hj : j ≠ 15) : Ag (up E j k v) (up D j k v) := by
  obtain ⟨h1, h2, h3⟩ := h
  refine ⟨fun j' k' hj' => ?_, by rw [up_ne (by omega), up_ne (by omega)]; exact h2, by rw [up_ne (by omega), up_ne (by omega)]; exact h3⟩
  rw [up_at, up_at]
  split
  · rfl
  · exact h1 j' k' hj'
theorem Ag_whole (h : Ag E D) : isWholeT E s = isWholeT D s := by
  obtain ⟨h1, h2, h3⟩ := h
  unfold isWholeT
  rw [h1 2 s (by omega), h1 3 s (by omega), h2, h3]
theorem Ag_part : ∀ (m i : Nat) {E D : xT}, Ag E D → Ag (partR s m i E) (partR s m i D)
  | 0, _, _, _, h => h
  | m + 1, i, E, D, h => by
    unfold partR
    rw [h.1 6 s (by omega), h.1 7 _ (by omega), h.1 8 _ (by omega)]
    split
    · exact Ag_part m (i + 1) (Ag_up h (by omega))
    · exact h
theorem Ag_1 (h : Ag E D) : Ag (fnd1 E s) (fnd1 D s) := by
  unfold fnd1
  rw [Ag_whole h, h.1 2 s (by omega), h.1 3 s (by omega), h.1 4 s (by omega), h.1 19 _ (by omega), h.2.1]
  split
  · exact Ag_part 4 0 h
  · split
    · exact Ag_up h (by omega)
    · exact h
theorem Ag_2 (h : Ag E D) : Ag (fnd2 E s) (fnd2 D s) := by
  have hp : pgT E s = pgT D s := by unfold pgT; rw [h.1 4 s (by omega), h.1 5 s (by omega)]
  have hst : standsT E s = standsT D s := by
    unfold standsT
    rw [hp, h.1 3 s (by omega), h.1 4 s (by omega), h.1 19 _ (by omega), h.1 18 _ (by omega), h.2.1]
  unfold fnd2
  rw [h.1 2 s (by omega), h.1 3 s (by omega), h.1 6 s (by omega), hp, hst, h.1 16 _ (by omega)]
  split
  · split
    · exact Ag_up (Ag_up h (by omega)) (by omega)
    · exact h
  · exact h
theorem Ag_clr (h : Ag E D) : Ag (fclrT E) (fclrT D) := by
  obtain ⟨h1, h2, h3⟩ := h
  refine ⟨fun j k hj => ?_, ?_, ?_⟩
  · unfold fclrT
    rw [h1 j k hj]
  · unfold fclrT
    rw [if_neg (by omega), if_neg (by omega), if_neg (by omega), if_neg (by omega), if_neg (by omega), if_neg (by omega), if_neg (by omega), if_neg (by omega)]; exact h2
  · unfold fclrT
    rw [if_neg (by omega), if_neg (by omega), if_neg (by omega), if_neg (by omega), if_neg (by omega), if_neg (by omega), if_neg (by omega), if_neg (by omega)]; exact h3
theorem Ag_1F (h : Ag E D) : ∀ s, Ag (fnd1F E s) (fnd1F D s)
  | 0 => Ag_clr h
  | s + 1 => Ag_1 (Ag_1F h s)
theorem Ag_2F (h : Ag E D) : ∀ s, Ag (fnd2F E t s) (fnd2F D t s)
  | 0 => Ag_1F h t
  | s + 1 => Ag_2 (Ag_2F h s)
theorem find_agr (h : Ag E D) (hj : 16 ≤ j ∧ j ≤ 19) : findT E t j k = findT D t j k := (Ag_2F h t).1 j k (by omega)
theorem InE_cg (h : ∀ j k, 20 ≤ j → j ≤ 24 → E j k = D j k) (hE : InE D P K) : InE E P K ∧ ∀ p a, NS E p a = NS D p a := by
  obtain ⟨a1, a2, a3, a4, a5, a6, a7⟩ := hE
  have e20 : ∀ k, E 20 k = D 20 k := fun k => h 20 k (by omega) (by omega)
  have e21 : ∀ k, E 21 k = D 21 k := fun k => h 21 k (by omega) (by omega)
  have e22 : ∀ k, E 22 k = D 22 k := fun k => h 22 k (by omega) (by omega)
  refine ⟨⟨a1, a2, by rw [h 24 0 (by omega) (by omega)]; exact a3, by rw [h 24 1 (by omega) (by omega)]; exact a4, ?_, ?_, ?_⟩, fun p a => by unfold NS; rw [e20, e22]⟩
  · simp only [e22]; exact a5
  · simp only [e21, e22]; exact a6
  · simp only [e20, e22]; exact a7
theorem same_DA (h : SameN C E D) : DAl E (tot C) = DAl D (tot C) := by
  funext a n
  apply propext
  constructor
  · rintro ⟨s, h1, h2, h3, h4⟩
    have hs := h s h1
    have hn := hs.1.mp (Or.inl h2)
    obtain ⟨e2, e3, e4, e5, -⟩ := hs.2 hn
    refine ⟨s, h1, by rw [← e2]; exact h2, ?_, ?_⟩
    · unfold pgT at h3 ⊢; rw [← e4, ← e5]; exact h3
    · unfold sq at h4 ⊢; rw [← e3]; exact h4
  · rintro ⟨s, h1, h2, h3, h4⟩
    have hs := h s h1
    obtain ⟨e2, e3, e4, e5, -⟩ := hs.2 (Or.inl h2)
    refine ⟨s, h1, by rw [e2]; exact h2, ?_, ?_⟩
    · unfold pgT at h3 ⊢; rw [e4, e5]; exact h3
    · unfold sq at h4 ⊢; rw [e3]; exact h4
theorem same_GO (h : SameN C E D) : GOl E (tot C) = GOl D (tot C) := by
  funext a n
  apply propext
  constructor
  · rintro ⟨s, h1, h2, h3, h4⟩
    have hs := h s h1
    have hn := hs.1.mp (Or.inr (Or.inl h2))
    obtain ⟨e2, e3, e4, e5, -⟩ := hs.2 hn
    exact ⟨s, h1, by rw [← e2]; exact h2, by rw [← e4]; exact h3, by unfold sq at h4 ⊢; rw [← e3]; exact h4⟩
  · rintro ⟨s, h1, h2, h3, h4⟩
    have hs := h s h1
    obtain ⟨e2, e3, e4, e5, -⟩ := hs.2 (Or.inr (Or.inl h2))
    exact ⟨s, h1, by rw [e2]; exact h2, by rw [e4]; exact h3, by unfold sq at h4 ⊢; rw [e3]; exact h4⟩
theorem same_WE (h : SameN C E D) (hN : InN C D) (h5 : E 15 5 = D 15 5) (h6 : E 15 6 = D 15 6) : WEl E (tot C) = WEl D (tot C) := by
  have hw : ∀ s, s < tot C → isN D s → isWholeT E s = isWholeT D s := fun s hs hn => by
    obtain ⟨e2, e3, -⟩ := (h s hs).2 hn
    unfold isWholeT
    rw [e2, e3, h5, h6]
  funext a n
  apply propext
  constructor
  · rintro ⟨s, i, h1, h2, h3, h4, h7⟩
    have hn := (h s h1).1.mp (Or.inr (Or.inr (whole_3 h2)))
    rw [hw s h1 hn] at h2
    obtain ⟨e2, e3, e4, e5, e6, e7⟩ := (h s h1).2 hn
    obtain ⟨-, -, -, p', n', c', -, -, g3, -, -, -, g7, -⟩ := idx_node hN h1 (whole_3 h2)
    rw [e6, g7, xi_i3 (by omega)] at h3
    obtain ⟨f7, f8⟩ := e7 i (by omega)
    exact ⟨s, i, h1, h2, by rw [g7, xi_i3 (by omega)]; exact h3, by rw [← f7]; exact h4, by rw [← f8]; exact h7⟩
  · rintro ⟨s, i, h1, h2, h3, h4, h7⟩
    have hn : isN D s := Or.inr (Or.inr (whole_3 h2))
    obtain ⟨e2, e3, e4, e5, e6, e7⟩ := (h s h1).2 hn
    obtain ⟨-, -, -, p', n', c', -, -, g3, -, -, -, g7, -⟩ := idx_node hN h1 (whole_3 h2)
    have h3' := h3
    rw [g7, xi_i3 (by omega)] at h3'
    obtain ⟨f7, f8⟩ := e7 i (by omega)
    exact ⟨s, i, h1, by rw [hw s h1 hn]; exact h2, by rw [e6]; exact h3, by rw [f7]; exact h4, by rw [f8]; exact h7⟩
theorem MapIs_da (h : MapIs C D n a r) (hr : r ≠ 0) : DAl D (tot C) a r := by
  rcases h with ⟨-, -, h, -⟩ | ⟨h, -⟩ | ⟨-, ⟨-, h, -⟩ | ⟨h, -⟩⟩
  · exact h
  · exact absurd h hr
  · exact h
  · exact absurd h hr
/-- what the finder finds hangs on the nodes, the base and the greatest number alone -/
theorem says_eq (hB : CB C) (hI : Inv C L D) (hI2 : Inv C L' E) (h : SameN C E D) (h5 : E 15 5 = D 15 5) (h6 : E 15 6 = D 15 6) (hl : E 14 10 = D 14 10) (ha : a < 20) : findT E (tot C) 16 a = findT D (tot C) 16 a ∧ findT E (tot C) 17 a = findT D (tot C) 17 a := by
  obtain ⟨m, m1, m2, m3, m4, m5⟩ := find_is hB hI ha
  obtain ⟨r, r1, r2, r3, r4, r5⟩ := find_is hB hI2 ha
  have hls : lsN E = lsN D := by unfold lsN; rw [hl]
  have hbs : bsN E = bsN D := by unfold bsN; rw [h5]
  have hN := hI.2.2.1
  have r3' : MapIs C D (lsN D) a r := by
    unfold MapIs C0 at r3 ⊢
    rw [same_DA h, same_GO h, same_WE h hN h5 h6, hls, hbs] at r3
    exact r3
  have e : m = r := MapIs_uniq hI.2.1 hI.2.2.1 hI.2.2.2.1 hI.2.2.2.2.2.1 m3 r3'
  subst e
  refine ⟨by rw [m1, r1], ?_⟩
  by_cases c : m = 0
  · rw [m4 c, r4 c]
  · obtain ⟨s, s1, s2, s3, s4⟩ := MapIs_da m3 c
    obtain ⟨e2, e3, e4, e5, e6, -⟩ := (h s s1).2 (Or.inl s2)
    rw [m5 s s1 s2 s4, r5 s s1 (by rw [e2]; exact s2) (by unfold sq at s4 ⊢; rw [e3]; exact s4), e6]
end
