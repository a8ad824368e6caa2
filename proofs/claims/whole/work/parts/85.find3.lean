/-! ===== what the finder finds: what is mapped by it ===== -/
/-- what the last whole commit gives of page a -/
def C0 (C : xC) (D : xT) (a v : Nat) : Prop := (WEl D (tot C) a v ∧ DAl D (tot C) a v ∧ 0 < v) ∨ (v = 0 ∧ ∀ q, ¬ (WEl D (tot C) a q ∧ DAl D (tot C) a q))
/-- what page a is mapped to by the numbers up to n -/
def MapIs (C : xC) (D : xT) (n a v : Nat) : Prop :=
  (bsN D < v ∧ v ≤ n ∧ DAl D (tot C) a v ∧ ∀ m, v < m → m ≤ n → ¬ DAl D (tot C) a m ∧ ¬ GOl D (tot C) (a / 4) m) ∨
  (v = 0 ∧ ∃ g, bsN D < g ∧ g ≤ n ∧ GOl D (tot C) (a / 4) g ∧ ∀ m, g < m → m ≤ n → ¬ DAl D (tot C) a m) ∨
  ((∀ m, bsN D < m → m ≤ n → ¬ DAl D (tot C) a m ∧ ¬ GOl D (tot C) (a / 4) m) ∧ C0 C D a v)
section
variable {M : xM} {D E X Y Z T P X' E' E0 E'' X'' : xT} {C : xC} {R N : Nat → Int32} {fu b d L L' s o t k n m i j p q f l w nb nw a at' r g c : Nat} {x y z v u : Int32} {nt : Bool}
theorem data_pg (hN : InN C D) (hB : CB C) (hs : s < tot C) (hk : D 2 s = 1) : ∃ f p, f < C 0 3 ∧ p < C 2 f ∧ D 4 s = i3 f ∧ D 5 s = i3 p ∧ pgT D s = f * 4 + p ∧ pgT D s / 4 = f ∧ pgT D s < 20 ∧ xi (D 4 s) = f := by
  have c5 := hB.2.2.2.1
  rcases hN s hs with q | q | q
  · rw [hk] at q; exact absurd q.1 (by decide)
  · rw [hk] at q; exact absurd q.1 (by decide)
  · rcases q.2.2.2 with r | r | r
    · obtain ⟨-, f, p, v, g1, g2, g3, g4, g5, g6⟩ := r
      have c4 := (hB.2.2.2.2.2 f g1).2.2
      have e : pgT D s = f * 4 + p := by unfold pgT; rw [g4, g5, xi_i3 (by omega), xi_i3 (by omega)]
      exact ⟨f, p, g1, g2, g4, g5, e, by omega, by omega, by rw [g4, xi_i3 (by omega)]⟩
    · rw [hk] at r; exact absurd r.1 (by decide)
    · rw [hk] at r; exact absurd r.1 (by decide)
theorem WE_node (hA : InA L D) (hN : InN C D) (hS : InS C D) (hC : InC C D) (hw : WEl D (tot C) a q) : ∃ s i p c, s < tot C ∧ D 2 s = 3 ∧ D 4 s = i3 p ∧ sq D s = fsN D + p ∧ D 6 s = i3 c ∧ c ≤ 4 ∧ i < c ∧ D 7 (s * 4 + i) = i3 a ∧ a < 20 ∧ D 8 (s * 4 + i) = i3 q ∧ 1 ≤ q ∧ q < sq D s ∧ sq D s ≤ bsN D ∧ p < 6 := by
  obtain ⟨s, i, h1, h2, h3, h4, h5⟩ := hw
  have hk := whole_3 h2
  obtain ⟨n1, n2, n3, p, n, c, n4, n5, n6, n7, n8, n9, n10, n11⟩ := idx_node hN h1 hk
  have hw := whole_iff hA hN hS hC h1 hk
  rw [h2] at hw
  have hw2 := of_decide_eq_true hw.symm
  have hsl : sq D s < 2147483648 := xi_lt _
  rw [n1, n8, i3_sub (by omega)] at hw2
  have hfl : fsN D < 2147483648 := by
    obtain ⟨a1, a2, a3, a4, a5, a6, a7, a8, a9⟩ := hA
    unfold fsN; split <;> omega
  have e1 := (i3_eq (by omega) hfl).mp hw2.1
  rw [n10, xi_i3 (by omega)] at h3
  obtain ⟨z, q', m1, m2, m3, m4, m5⟩ := n11 i h3
  rw [m2, xi_i3 (by omega)] at h4
  rw [m3, xi_i3 (by omega)] at h5
  refine ⟨s, i, p, c, h1, hk, n8, by omega, n10, n6, h3, by rw [m2, h4], by omega, by rw [m3, h5], by omega, by omega, ?_, by omega⟩
  unfold isWholeT at h2
  simp only [Bool.and_eq_true, decide_eq_true_eq] at h2
  have := h2.2.1
  rw [n1, hA.2.2.2.1] at this
  exact (i3_le (xi_lt _) (xi_lt _)).mp this
theorem WE_uniq (hA : InA L D) (hN : InN C D) (hS : InS C D) (hC : InC C D) (h1 : WEl D (tot C) a q) (h2 : WEl D (tot C) a r) : q = r := by
  obtain ⟨s, i, p, c, a1, a2, a3, a4, a5, a6, a7, a8, a9, a10, a11, a12, a13, a14⟩ := WE_node hA hN hS hC h1
  obtain ⟨t, j, p', c', b1, b2, b3, b4, b5, b6, b7, b8, b9, b10, b11, b12, b13, b14⟩ := WE_node hA hN hS hC h2
  have hsl : sq D s < 2147483648 := xi_lt _
  have htl : sq D t < 2147483648 := xi_lt _
  have := hC.2.2.1 s t i j a1 b1 a2 b2 (by rw [a3, b3, xi_i3 (by omega), xi_i3 (by omega)]; omega) (by omega) (by omega) (by rw [a5]; exact (i3_lt (by omega) (by omega)).mpr a7) (by rw [b5]; exact (i3_lt (by omega) (by omega)).mpr b7) (by rw [a8, b8])
  rw [a10, b10] at this
  exact (i3_eq (by omega) (by omega)).mp this
theorem WE_data (hA : InA L D) (hN : InN C D) (hS : InS C D) (hC : InC C D) (h1 : WEl D (tot C) a q) (ht : t < tot C) (hk : D 2 t = 1) (hq : sq D t = q) : pgT D t = a := by
  obtain ⟨s, i, p, c, a1, a2, a3, a4, a5, a6, a7, a8, a9, a10, a11, a12, a13, a14⟩ := WE_node hA hN hS hC h1
  have := hC.2.2.2 s t i a1 ht a2 hk (by omega) (by rw [a5]; exact (i3_lt (by omega) (by omega)).mpr a7) (by rw [(node_seq (hN t ht) (Or.inl hk)).1, hq, a10])
  rw [this, a8, xi_i3 (by omega)]
theorem MapIs_uniq (hA : InA L D) (hN : InN C D) (hS : InS C D) (hC : InC C D) (h1 : MapIs C D n a q) (h2 : MapIs C D n a r) : q = r := by
  rcases h1 with ⟨a1, a2, a3, a4⟩ | ⟨a1, g, a2, a3, a4, a5⟩ | ⟨a1, a2⟩ <;> rcases h2 with ⟨b1, b2, b3, b4⟩ | ⟨b1, g', b2, b3, b4, b5⟩ | ⟨b1, b2⟩
  · rcases Nat.lt_trichotomy q r with c | c | c
    · exact absurd b3 (a4 r c b2).1
    · exact c
    · exact absurd a3 (b4 q c a2).1
  · rcases Nat.lt_or_ge g' q with c | c
    · exact absurd a3 (b5 q c a2)
    · rcases Nat.lt_or_ge q g' with c2 | c2
      · exact absurd b4 (a4 g' c2 b3).2
      · have e : q = g' := by omega
        obtain ⟨s, s1, s2, s3, s4⟩ := a3
        obtain ⟨o, o1, o2, o3, o4⟩ := b4
        have x1 := node_seq (hN s s1) (Or.inl s2)
        have x2 := node_seq (hN o o1) (Or.inr (Or.inl o2))
        have := (hS s o s1 o1 (Or.inl s2) (by rw [x1.1, x2.1, s4, o4, e])).1
        rw [s2, o2] at this
        exact absurd this (by decide)
  · exact absurd a3 (b1 q a1 a2).1
  · rcases Nat.lt_or_ge g r with c | c
    · exact absurd b3 (a5 r c b2)
    · rcases Nat.lt_or_ge r g with c2 | c2
      · exact absurd a4 (b4 g c2 a3).2
      · have e : r = g := by omega
        obtain ⟨s, s1, s2, s3, s4⟩ := b3
        obtain ⟨o, o1, o2, o3, o4⟩ := a4
        have x1 := node_seq (hN s s1) (Or.inl s2)
        have x2 := node_seq (hN o o1) (Or.inr (Or.inl o2))
        have := (hS s o s1 o1 (Or.inl s2) (by rw [x1.1, x2.1, s4, o4, e])).1
        rw [s2, o2] at this
        exact absurd this (by decide)
  · omega
  · exact absurd a4 (b1 g a2 a3).2
  · exact absurd b3 (a1 r b1 b2).1
  · exact absurd b4 (a1 g' b2 b3).2
  · rcases a2 with ⟨w1, w2, w3⟩ | ⟨w1, w2⟩ <;> rcases b2 with ⟨v1, v2, v3⟩ | ⟨v1, v2⟩
    · exact WE_uniq hA hN hS hC w1 v1
    · exact absurd ⟨w1, w2⟩ (v2 q)
    · exact absurd ⟨v1, v2⟩ (w2 r)
    · omega
theorem stands_cg (h : ∀ j k, j ≠ 16 → j ≠ 17 → E j k = D j k) : standsT E s = standsT D s := by
  have hp : pgT E s = pgT D s := by unfold pgT; rw [h 4 s (by omega) (by omega), h 5 s (by omega) (by omega)]
  unfold standsT
  rw [hp, h 3 s (by omega) (by omega), h 15 5 (by omega) (by omega), h 4 s (by omega) (by omega), h 19 _ (by omega) (by omega), h 18 _ (by omega) (by omega)]
theorem fnd2_1617 (h : j ≠ 16) (h2 : j ≠ 17) : fnd2 E s j k = E j k := by
  unfold fnd2
  split
  · split
    · rw [up_ne (by omega), up_ne (by omega)]
    · rfl
  · rfl
theorem fnd2F_1617 (h : j ≠ 16) (h2 : j ≠ 17) : ∀ s, fnd2F D t s j k = fnd1F D t j k
  | 0 => rfl
  | s + 1 => (fnd2_1617 h h2).trans (fnd2F_1617 h h2 s)
theorem fnd1_16 (h : j = 16 ∨ j = 17) : ∀ s, fnd1F D s j k = fclrT D j k
  | 0 => rfl
  | s + 1 => by
    show fnd1 (fnd1F D s) s j k = _
    unfold fnd1
    split
    · rw [partR_lo _ _ _ _ _ (by omega)]; exact fnd1_16 h s
    · split
      · rw [up_ne (by omega)]; exact fnd1_16 h s
      · exact fnd1_16 h s
/-- as far as slot s: the greatest number of what stands of page a, and what it says -/
def F2Is (C : xC) (D : xT) (a s m : Nat) (x y : Int32) : Prop := x = i3 m ∧ m < 2147483648 ∧
  ((m = 0 ∧ y = -1 ∧ ∀ o, o < s → D 2 o = 1 → pgT D o = a → standsT (fnd1F D (tot C)) o = false) ∨
    ∃ o, o < s ∧ D 2 o = 1 ∧ pgT D o = a ∧ standsT (fnd1F D (tot C)) o = true ∧ sq D o = m ∧ y = D 6 o) ∧
  ∀ o, o < s → D 2 o = 1 → pgT D o = a → standsT (fnd1F D (tot C)) o = true → sq D o ≤ m
theorem fnd2F_16 (hN : InN C D) (ha : a < 20) : ∀ s, s ≤ tot C → ∃ m, F2Is C D a s m (fnd2F D (tot C) s 16 a) (fnd2F D (tot C) s 17 a)
  | 0, _ => by
    have e1 : fnd2F D (tot C) 0 16 a = 0 := (fnd1_16 (Or.inl rfl) _).trans (by unfold fclrT; rw [if_pos ⟨rfl, ha⟩])
    have e2 : fnd2F D (tot C) 0 17 a = -1 := (fnd1_16 (Or.inr rfl) _).trans (by unfold fclrT; rw [if_neg (by omega), if_pos ⟨rfl, ha⟩])
    refine ⟨0, e1, by omega, Or.inl ⟨rfl, e2, fun o h => absurd h (Nat.not_lt_zero _)⟩, fun o h => absurd h (Nat.not_lt_zero _)⟩
  | s + 1, hs => by
    obtain ⟨m, h1, h2, h3, h4⟩ := fnd2F_16 hN ha s (by omega)
    have hst : standsT (fnd2F D (tot C) s) s = standsT (fnd1F D (tot C)) s := stands_cg (fun j k q1 q2 => fnd2F_1617 q1 q2 s)
    have hlo : ∀ j k, j < 16 → fnd2F D (tot C) s j k = D j k := fun j k hj => fnd2F_lo (by omega) s
    have hpg : pgT (fnd2F D (tot C) s) s = pgT D s := by unfold pgT; rw [hlo 4 s (by omega), hlo 5 s (by omega)]
    show ∃ m, F2Is C D a (s + 1) m (fnd2 (fnd2F D (tot C) s) s 16 a) (fnd2 (fnd2F D (tot C) s) s 17 a)
    have keep : ¬ (D 2 s = 1 ∧ pgT D s = a ∧ standsT (fnd1F D (tot C)) s = true ∧ m < sq D s) → F2Is C D a (s + 1) m (fnd2F D (tot C) s 16 a) (fnd2F D (tot C) s 17 a) := by
      intro hn
      refine ⟨h1, h2, ?_, fun o ho k1 k2 k3 => ?_⟩
      · rcases h3 with ⟨q1, q2, q3⟩ | ⟨o, q1, q2⟩
        · by_cases hz : D 2 s = 1 ∧ pgT D s = a ∧ standsT (fnd1F D (tot C)) s = true
          · exfalso
            have := (node_seq (hN s (by omega)) (Or.inl hz.1)).2.1
            exact hn ⟨hz.1, hz.2.1, hz.2.2, by omega⟩
          · refine Or.inl ⟨q1, q2, fun o ho k1 k2 => ?_⟩
            rcases Nat.lt_or_ge o s with c | c
            · exact q3 o c k1 k2
            · have : o = s := by omega
              subst this
              cases e : standsT (fnd1F D (tot C)) o with
              | false => rfl
              | true => exact absurd ⟨k1, k2, e⟩ hz
        · exact Or.inr ⟨o, by omega, q2⟩
      · rcases Nat.lt_or_ge o s with c | c
        · exact h4 o c k1 k2 k3
        · have : o = s := by omega
          subst this
          exact Nat.not_lt.mp (fun q => hn ⟨k1, k2, k3, q⟩)
    unfold fnd2
    rw [hlo 2 s (by omega), hlo 3 s (by omega), hlo 6 s (by omega), hst, hpg]
    by_cases k1 : D 2 s = 1
    · rw [if_pos k1]
      by_cases k2 : pgT D s = a
      · rw [k2, h1]
        have hq := node_seq (hN s (by omega)) (Or.inl k1)
        have hsl : sq D s < 2147483648 := xi_lt _
        by_cases k3 : standsT (fnd1F D (tot C)) s = true ∧ m < sq D s
        · have hc : (standsT (fnd1F D (tot C)) s && ! decide (D 3 s ≤ i3 m)) = true := by
            rw [k3.1, hq.1, decide_eq_false (fun q => by have := (i3_le hsl h2).mp q; omega)]; rfl
          rw [if_pos hc]
          refine ⟨sq D s, by rw [up_ne (by omega), up_eq]; exact hq.1, hsl, Or.inr ⟨s, by omega, k1, k2, k3.1, rfl, up_eq⟩, fun o ho q1 q2 q3 => ?_⟩
          rcases Nat.lt_or_ge o s with c | c
          · have := h4 o c q1 q2 q3; omega
          · have : o = s := by omega
            rw [this]; exact Nat.le_refl _
        · have hc : ¬ (standsT (fnd1F D (tot C)) s && ! decide (D 3 s ≤ i3 m)) = true := by
            intro q
            simp only [Bool.and_eq_true, Bool.not_eq_true', decide_eq_false_iff_not] at q
            refine k3 ⟨q.1, Nat.not_le.mp (fun r => q.2 ?_)⟩
            rw [hq.1]; exact (i3_le hsl h2).mpr r
          rw [if_neg hc]
          exact ⟨m, keep (fun q => k3 ⟨q.2.2.1, q.2.2.2⟩)⟩
      · have hk := keep (fun q => k2 q.2.1)
        split
        · rw [up_ne (by omega), up_ne (by omega), up_ne (by omega), up_ne (by omega)]; exact ⟨m, hk⟩
        · exact ⟨m, hk⟩
    · rw [if_neg k1]
      exact ⟨m, keep (fun q => k1 q.1)⟩
end
