/-! ===== blocks behind a put ===== -/
section
variable {M : xM} {D E X Y Z : xT} {C : xC} {R N : Nat → Int32} {fu b d L s o t k n m i j p q f l w nb nw a : Nat} {x y z v u : Int32}
theorem eraA_dec : ∀ {n : Nat}, k < n → (∀ k', k' < n → k' ≠ k → eraN E nw k' nw = eraN D nw k' nw) → eraN E nw k nw + 1 = eraN D nw k nw → eraA E nw n + 1 = eraA D nw n
  | 0, h, _, _ => absurd h (Nat.not_lt_zero _)
  | n + 1, h, h1, h2 => by
    show eraA E nw n + eraN E nw n nw + 1 = eraA D nw n + eraN D nw n nw
    rcases Nat.lt_or_ge k n with c | c
    · have := eraA_dec c (fun k' hk hne => h1 k' (by omega) hne) h2
      rw [h1 n (by omega) (by omega)]
      omega
    · have e : k = n := by omega
      subst e
      have : ∀ m, m ≤ k → eraA E nw m = eraA D nw m := by
        intro m
        induction m with
        | zero => intro _; rfl
        | succ m ih => intro hm; show eraA E nw m + _ = eraA D nw m + _; rw [ih (by omega), h1 m (by omega) (by omega)]
      rw [this k (Nat.le_refl _)]
      omega
theorem eraA_le : ∀ n, eraA D nw n ≤ n * nw
  | 0 => Nat.zero_le _
  | n + 1 => by
    show eraA D nw n + eraN D nw n nw ≤ (n + 1) * nw
    have h1 := eraA_le n
    have h2 : eraN D nw n nw ≤ nw := cnt_le _ _
    rw [Nat.succ_mul]; omega
/-- a node stands in the spot now -/
theorem InB_place (hB : CB C) (hI : InB C D) (hS : Spot C D k l) (hh : ∀ k', k' < C 0 0 → D 15 4 = i3 k' → k' = k ∨ D 1 k' = 0)
    (e4 : E 15 4 = i3 k) (e1 : E 1 k = D 1 k - 1) (e1' : ∀ k', k' ≠ k → E 1 k' = D 1 k') (e3 : E 15 3 = D 15 3 - 1)
    (e2 : E 2 (k * C 0 1 + (C 0 1 - l)) ≠ 0) (e2' : ∀ t, t < tot C → t ≠ k * C 0 1 + (C 0 1 - l) → E 2 t = D 2 t) : InB C E := by
  obtain ⟨s1, s2, s3, s4, s5⟩ := hS
  have h6 := hB.1
  have h61 := hB.2.1
  have h36 := tot36 hB
  have hT : tot C = C 0 0 * C 0 1 := rfl
  have hBk := blk (nw := C 0 1) s1
  have keyk : ∀ i, i < C 0 1 → (E 2 (k * C 0 1 + i) = 0 ↔ C 0 1 - (l - 1) ≤ i) := by
    intro i hi
    by_cases c : i = C 0 1 - l
    · subst c
      exact ⟨fun q => absurd q e2, fun q => by omega⟩
    · rw [e2' _ (by omega) (by omega), s5 i hi]
      omega
  have other : ∀ k', k' < C 0 0 → k' ≠ k → ∀ i, i < C 0 1 → E 2 (k' * C 0 1 + i) = D 2 (k' * C 0 1 + i) := by
    intro k' hk hne i hi
    have hBk' := blk (nw := C 0 1) hk
    refine e2' _ (by omega) (fun q => ?_)
    rcases Nat.lt_or_ge k' k with c | c
    · have := Nat.mul_le_mul_right (C 0 1) (show k' + 1 ≤ k from c)
      rw [Nat.succ_mul] at this
      omega
    · have := Nat.mul_le_mul_right (C 0 1) (show k + 1 ≤ k' by omega)
      rw [Nat.succ_mul] at this
      omega
  have hdec : eraA E (C 0 1) (C 0 0) + 1 = eraA D (C 0 1) (C 0 0) := by
    refine eraA_dec s1 (fun k' hk hne => ?_) ?_
    · unfold eraN
      exact cnt_congr (fun i hi => by rw [other k' hk hne i hi])
    · rw [era_l (l := l - 1) (by omega) keyk, era_l s3 s5]; omega
  have hle := eraA_le (D := D) (nw := C 0 1) (C 0 0)
  refine ⟨?_, fun k' hk' => ?_⟩
  · rw [e3, hI.1, show (1 : Int32) = i3 1 from rfl, i3_sub (by omega)]
    congr 1; omega
  · by_cases c : k' = k
    · subst c
      refine ⟨l - 1, by omega, ?_, keyk, Or.inl e4⟩
      rw [e1, s4, show (1 : Int32) = i3 1 from rfl, i3_sub (by omega)]
    · obtain ⟨l', l1, l2, l3, l4⟩ := hI.2 k' hk'
      refine ⟨l', l1, by rw [e1' k' c, l2], fun i hi => by rw [other k' hk' c i hi]; exact l3 i hi, ?_⟩
      rcases l4 with q | q | q
      · rcases hh k' hk' q with r | r
        · exact absurd r c
        · rw [l2] at r
          exact Or.inr (Or.inl ((i3_eq (b := 0) (by omega) (by omega)).mp r))
      · exact Or.inr (Or.inl q)
      · exact Or.inr (Or.inr q)
/-- the spot of the next node, with what is known of the head -/
theorem take_spot (hB : CB C) (hO : Ok (C 0 0) (C 0 1) D) (hI : InB C D) (he : ¬ D 15 3 = 0) :
    ∃ k l, Spot C D k l ∧ takeT D (C 0 0) (C 0 1) = (some (k * C 0 1 + (C 0 1 - l)), takeD D k) ∧ ∀ k', k' < C 0 0 → D 15 4 = i3 k' → k' = k ∨ D 1 k' = 0 := by
  have h6 := hB.1
  have h61 := hB.2.1
  have o4 := hO.2.2.2.1
  have hA : 0 < eraA D (C 0 1) (C 0 0) := by
    rcases Nat.eq_zero_or_pos (eraA D (C 0 1) (C 0 0)) with e | e
    · exact absurd (by rw [hI.1, e]; rfl) he
    · exact e
  by_cases hc : D 15 4 < 0 ∨ D 1 (xi (D 15 4)) = 0
  · obtain ⟨k, hk, hk2⟩ := eraA_pos hA
    obtain ⟨l, l1, l2, l3, l4⟩ := hI.2 k hk
    rw [era_l l1 l3] at hk2
    have hne : ¬ D 15 4 = i3 k := by
      intro e
      rcases hc with q | q
      · rw [e] at q; exact (i3_nl (a := k) (by omega)).mp q
      · rw [e, xi_i3 (by omega), l2] at q
        have := (i3_eq (b := 0) (by omega) (by omega)).mp q
        omega
    have hlw : l = C 0 1 := by
      rcases l4 with q | q | q
      · exact absurd q hne
      · omega
      · exact q
    have e0 : (0 : Int32) < D 15 1 := by rw [o4]; exact (i3_lt (a := 0) (by omega) (by omega)).mpr (by omega)
    obtain ⟨m, m1, m2, m3⟩ := freshF_some hk (by rw [l2, o4, hlw]) e0
    obtain ⟨l', k1, k2, k3, k4⟩ := hI.2 m m1
    have hl' : l' = C 0 1 := by
      rw [k2, o4] at m3
      exact (i3_eq (by omega) (by omega)).mp m3
    have hSp : Spot C D m l' := ⟨m1, by omega, k1, k2, k3⟩
    refine ⟨m, l', hSp, ?_, fun k' hk' e => ?_⟩
    · unfold takeT
      rw [if_pos hc, m2]
      simp only [i3_nl (show m < 2147483648 by omega), if_false, xi_i3 (show m < 2147483648 by omega)]
      rw [take_at (Spot_head hSp) up_eq]
      unfold takeD
      rw [up_id (D := up D 15 4 (i3 m)) up_eq, up_ne (j := 15) (k := 4) (j' := 1) (by omega), up_ne (j := 15) (k := 4) (j' := 15) (k' := 3) (by omega)]
    · rcases hc with q | q
      · rw [e] at q; exact absurd ((i3_nl (a := k') (by omega)).mp q) id
      · rw [e, xi_i3 (by omega)] at q
        exact Or.inr q
  · rcases hO.2.2.2.2.2.1 with e | ⟨k, hk, e⟩
    · exact absurd (Or.inl (by rw [e]; decide)) hc
    · obtain ⟨l, l1, l2, l3, l4⟩ := hI.2 k hk
      have hk2 : k < 2147483648 := by omega
      have c : l ≠ 0 := fun q => hc (Or.inr (by rw [e, xi_i3 hk2, l2, q]; rfl))
      have hSp : Spot C D k l := ⟨hk, by omega, l1, l2, l3⟩
      refine ⟨k, l, hSp, ?_, fun k' hk' e' => Or.inl ?_⟩
      · unfold takeT
        rw [if_neg hc, e, xi_i3 hk2]
        exact take_at hSp e
      · rw [e] at e'
        exact ((i3_eq (by omega) (by omega)).mp e').symm
end
