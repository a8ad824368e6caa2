/-! ===== as many fresh ends as maps ===== -/
section
variable {D E : xT} {p q n k m o i K P : Nat} {f : Nat → Nat}
/-- no put ahead of p has p's value -/
def firstB (f : Nat → Nat) (p : Nat) : Bool := match lst (fun o => decide (f o = f p)) p with | some _ => false | none => true
theorem first_iff : firstB f p = true ↔ ∀ o, o < p → f o ≠ f p := by
  unfold firstB
  cases e : lst (fun o => decide (f o = f p)) p with
  | none =>
    simp only [true_iff]
    intro o ho
    have := lst_none.mp e o ho
    simpa using this
  | some o =>
    simp only [Bool.false_eq_true, false_iff]
    intro h
    obtain ⟨h1, h2, -⟩ := lst_some.mp e
    simp only [decide_eq_true_eq] at h2
    exact h o h1 h2
theorem fresh_cnt (hu : ∀ m, m < K → ∃ p, p < P ∧ f p = m) : ∀ k, k ≤ K → cnt (fun p => firstB f p && decide (f p < k)) P = k
  | 0, _ => cnt_zero (fun i hi => by rw [decide_eq_false (Nat.not_lt_zero _), Bool.and_false])
  | k + 1, hk => by
    have ih := fresh_cnt hu k (by omega)
    have hs := cnt_or (p1 := fun p => firstB f p && decide (f p < k)) (p2 := fun p => firstB f p && decide (f p = k)) (p3 := fun p => firstB f p && decide (f p < k + 1)) (fun i => by
      cases firstB f i with
      | false => rfl
      | true =>
        simp only [Bool.true_and]
        rw [← Bool.decide_or]
        exact decide_eq_decide.mpr (by omega)) (fun i => by
      cases firstB f i with
      | false => rfl
      | true =>
        simp only [Bool.true_and]
        rw [← Bool.decide_and, decide_eq_false (by omega)]) P
    rw [hs, ih]
    have h1 : cnt (fun p => firstB f p && decide (f p = k)) P = 1 := by
      obtain ⟨p0, q1, q2⟩ := hu k (by omega)
      cases e : lst (fun p => decide (f p = k)) P with
      | none =>
        have := lst_none.mp e p0 q1
        rw [decide_eq_true q2] at this
        exact absurd this (by decide)
      | some o =>
        obtain ⟨o1, o2, o3⟩ := lst_some.mp e
        simp only [decide_eq_true_eq] at o2
        have hfo : ∀ t, t < o → f t ≠ k := fun t ht => by simpa using o3 t ht
        refine cnt_one o1 ?_ (fun i hi hne => ?_)
        · rw [first_iff.mpr (fun t ht => by rw [o2]; exact hfo t ht), decide_eq_true o2]; rfl
        · by_cases c : f i = k
          · have : firstB f i = false := by
              cases e2 : firstB f i with
              | false => rfl
              | true =>
                exfalso
                have hi2 := first_iff.mp e2
                rcases Nat.lt_trichotomy i o with w | w | w
                · exact hfo i w c
                · exact hne w
                · exact hi2 o w (by rw [o2, c])
            rw [this]; rfl
          · rw [decide_eq_false c, Bool.and_false]
    rw [h1]
/-- as many puts are the first of their map as there are maps -/
theorem ends_cnt (hE : InE D P K) : cnt (firstB (fun p => xi (D 22 p))) P = K := by
  obtain ⟨a1, a2, a3, a4, a5, a6, a7, a8⟩ := hE
  have h := fresh_cnt (K := K) (P := P) (f := fun p => xi (D 22 p)) (fun m hm => by
    obtain ⟨p, p1, p2⟩ := a8 m hm
    exact ⟨p, p1, by rw [p2, xi_i3 (by omega)]⟩) K (Nat.le_refl _)
  refine Eq.trans (cnt_congr (fun i hi => ?_)) h
  obtain ⟨m, m1, m2⟩ := a5 i hi
  rw [m2, xi_i3 (by omega), decide_eq_true m1, Bool.and_true]
/-- two puts say the same on all pages just when they have one map -/
theorem same_map (hE : InE D P K) (hp : p < P) (hq : q < P) : (∀ i, i < 20 → NS D p i = NS D q i) ↔ xi (D 22 p) = xi (D 22 q) := by
  obtain ⟨a1, a2, a3, a4, a5, a6, a7, a8⟩ := hE
  obtain ⟨m, m1, m2⟩ := a5 p hp
  obtain ⟨n, n1, n2⟩ := a5 q hq
  unfold NS
  rw [m2, n2, xi_i3 (by omega), xi_i3 (by omega)]
  exact ⟨fun h => a7 m n m1 n1 h, fun h i hi => by rw [h]⟩
end
