/-! ===== what the finder finds is what is mapped by the numbers ===== -/
section
variable {M : xM} {D E X Y Z T P X' E' E0 E'' X'' : xT} {C : xC} {R N : Nat → Int32} {fu b d L L' s o t k n m i j p q f l w nb nw a at' r g c : Nat} {x y z v u : Int32} {nt : Bool}
theorem stands_is (hA : InA L D) (hN : InN C D) (hB : CB C) (hs : s < tot C) (hk : D 2 s = 1) (hg : fnd1F D (tot C) 19 (pgT D s / 4) = i3 g) (hgl : g < 2147483648) :
    standsT (fnd1F D (tot C)) s = true ↔ (bsN D < sq D s ∧ g < sq D s) ∨ (sq D s ≤ bsN D ∧ g = 0 ∧ fnd1F D (tot C) 18 (pgT D s) = D 3 s) := by
  obtain ⟨f, p, g1, g2, g3, g4, g5, g6, g7, g8⟩ := data_pg hN hB hs hk
  have hlo : ∀ j k, j < 16 → fnd1F D (tot C) j k = D j k := fun j k hj => fnd1F_lo (by omega) _
  have hpg : pgT (fnd1F D (tot C)) s = pgT D s := by unfold pgT; rw [hlo 4 s (by omega), hlo 5 s (by omega)]
  have hq := node_seq (hN s hs) (Or.inl hk)
  have hsl : sq D s < 2147483648 := xi_lt _
  have hbl : bsN D < 2147483648 := xi_lt _
  rw [g6] at hg
  unfold standsT
  rw [hpg, hlo 3 s (by omega), hlo 4 s (by omega), hlo 15 5 (by omega), g8, hg, hA.2.2.2.1]
  by_cases c : sq D s ≤ bsN D
  · have c' : D 3 s ≤ i3 (bsN D) := by rw [hq.1]; exact (i3_le hsl hbl).mpr c
    rw [if_pos c']
    simp only [Bool.and_eq_true, decide_eq_true_eq]
    constructor
    · rintro ⟨q1, q2⟩
      exact Or.inr ⟨c, (i3_eq (b := 0) hgl (by omega)).mp q1, q2⟩
    · rintro (⟨q, -⟩ | ⟨-, q1, q2⟩)
      · omega
      · exact ⟨by rw [q1]; rfl, q2⟩
  · have c' : ¬ D 3 s ≤ i3 (bsN D) := by rw [hq.1]; exact fun q => c ((i3_le hsl hbl).mp q)
    rw [if_neg c']
    simp only [Bool.not_eq_true', decide_eq_false_iff_not]
    rw [hq.1]
    constructor
    · intro q
      exact Or.inl ⟨by omega, Nat.not_le.mp (fun r => q ((i3_le hsl hgl).mpr r))⟩
    · rintro (⟨-, q⟩ | ⟨q, -⟩)
      · exact fun r => absurd ((i3_le hsl hgl).mp r) (by omega)
      · omega
/-- what the finder says: the number that page a is mapped to, and the value -/
theorem find_is (hB : CB C) (hI : Inv C L D) (ha : a < 20) : ∃ m, findT D (tot C) 16 a = i3 m ∧ m < 2147483648 ∧ MapIs C D (lsN D) a m ∧ (m = 0 → findT D (tot C) 17 a = -1) ∧ ∀ s, s < tot C → D 2 s = 1 → sq D s = m → findT D (tot C) 17 a = D 6 s := by
  obtain ⟨hO, hA, hN, hS, hM, hC, hOo, hIB⟩ := hI
  have c5 := hB.2.2.2.1
  obtain ⟨g, g1, g2, g3, g4⟩ := fnd1F_19 hA hN c5 (show a / 4 < 5 by omega) (tot C) (Nat.le_refl _)
  obtain ⟨m, h1, h2, h3, h4⟩ := fnd2F_16 hN ha (tot C) (Nat.le_refl _)
  have hst : ∀ o, o < tot C → D 2 o = 1 → pgT D o = a → (standsT (fnd1F D (tot C)) o = true ↔ (bsN D < sq D o ∧ g < sq D o) ∨ (sq D o ≤ bsN D ∧ g = 0 ∧ fnd1F D (tot C) 18 a = D 3 o)) := by
    intro o ho hk hp
    have := stands_is hA hN hB ho hk (by rw [hp]; exact g1) g2
    rw [hp] at this
    exact this
  have hda : ∀ n, bsN D < n → g < n → DAl D (tot C) a n → n ≤ m := by
    intro n q1 q2 ⟨o, o1, o2, o3, o4⟩
    have := h4 o o1 o2 o3 ((hst o o1 o2 o3).mpr (Or.inl ⟨by omega, by omega⟩))
    omega
  refine ⟨m, h1, h2, ?_, ?_, ?_⟩
  · rcases h3 with ⟨m0, -, hno⟩ | ⟨o, o1, o2, o3, o4, o5, -⟩
    · have hda2 : ∀ n, bsN D < n → g < n → ¬ DAl D (tot C) a n := fun n q1 q2 q => by have := hda n q1 q2 q; omega
      rcases g3 with q | ⟨q, q2⟩
      · refine Or.inr (Or.inr ⟨fun n n1 n2 => ⟨hda2 n n1 (by omega), fun e => by have := g4 n e n1; omega⟩, Or.inr ⟨m0, fun r ⟨e1, e2⟩ => ?_⟩⟩)
        obtain ⟨o, o1, o2, o3, o4⟩ := e2
        obtain ⟨s', i', p', c', a1, a2, a3, a4, a5, a6, a7, a8, a9, a10, a11, a12, a13, a14⟩ := WE_node hA hN hS hC e1
        have hn := hno o o1 o2 o3
        have : standsT (fnd1F D (tot C)) o = true := by
          refine (hst o o1 o2 o3).mpr (Or.inr ⟨by omega, q, ?_⟩)
          rcases fnd1F_18 hN ha (tot C) (Nat.le_refl _) with ⟨-, w⟩ | ⟨r', w1, w2, w3⟩
          · exact absurd e1 (w r)
          · have := WE_uniq hA hN hS hC e1 w3
            rw [w1, (node_seq (hN o o1) (Or.inl o2)).1, o4, this]
        rw [hn] at this
        exact absurd this (by decide)
      · obtain ⟨s, s1, s2, s3, s4⟩ := q
        have := (node_seq (hN s s1) (Or.inr (Or.inl s2))).2.2
        exact Or.inr (Or.inl ⟨m0, g, q2, by omega, ⟨s, s1, s2, s3, s4⟩, fun n n1 n2 => hda2 n (by omega) n1⟩)
    · rcases (hst o o1 o2 o3).mp o4 with ⟨q1, q2⟩ | ⟨q1, q2, q3⟩
      · have hle := (node_seq (hN o o1) (Or.inl o2)).2.2
        refine Or.inl ⟨by omega, by omega, ⟨o, o1, o2, o3, o5⟩, fun n n1 n2 => ⟨fun e => by have := hda n (by omega) (by omega) e; omega, fun e => by have := g4 n e (by omega); omega⟩⟩
      · have hgo : ∀ n, bsN D < n → ¬ DAl D (tot C) a n := fun n n1 e => by have := hda n n1 (by have := n1; omega) e; omega
        refine Or.inr (Or.inr ⟨fun n n1 n2 => ⟨hgo n n1, fun e => by have := g4 n e n1; omega⟩, Or.inl ⟨?_, ⟨o, o1, o2, o3, o5⟩, ?_⟩⟩)
        · have hq := node_seq (hN o o1) (Or.inl o2)
          rcases fnd1F_18 hN ha (tot C) (Nat.le_refl _) with ⟨w, -⟩ | ⟨r', w1, w2, w3⟩
          · rw [w, hq.1] at q3
            have := (i3_eq (a := 0) (by omega) (xi_lt _)).mp q3
            have e : sq D o = xi (D 3 o) := rfl
            omega
          · rw [w1, hq.1, o5] at q3
            have := (i3_eq w2 h2).mp q3
            rw [← this]; exact w3
        · have := (node_seq (hN o o1) (Or.inl o2)).2.1; omega
  · intro m0
    rcases h3 with ⟨-, q, -⟩ | ⟨o, o1, o2, o3, o4, o5, -⟩
    · exact q
    · have := (node_seq (hN o o1) (Or.inl o2)).2.1; omega
  · intro s hs hk he
    have hq := node_seq (hN s hs) (Or.inl hk)
    rcases h3 with ⟨q, -⟩ | ⟨o, o1, o2, o3, o4, o5, o6⟩
    · omega
    · have ho := node_seq (hN o o1) (Or.inl o2)
      have := (hS o s o1 hs (Or.inl o2) (by rw [ho.1, hq.1, o5, he])).2.2.2.1
      show fnd2F D (tot C) (tot C) 17 a = _
      rw [o6, this]
end
