/-! ===== what is live, as the reference sees it ===== -/
section
variable {M : xM} {D X : xT} {C : xC} {fu b L s o : Nat}
theorem whole_iff (hA : InA L D) (hN : InN C D) (hS : InS C D) (hC : InC C D) {s : Nat} (hs : s < tot C) (hk : D 2 s = 3) : isWholeT D s = decide (D 3 s - D 4 s = i3 (fsN D) ∧ D 5 s = i3 (wpN D)) := by
  obtain ⟨a1, a2, a3, a4, a5, a6, a7, a8, a9⟩ := hA
  have hn : isN D s := Or.inr (Or.inr hk)
  have hq := node_seq (hN s hs) hn
  have hx : ∃ p n, p < n ∧ n ≤ 6 ∧ p < sq D s ∧ D 4 s = i3 p ∧ D 5 s = i3 n := by
    rcases hN s hs with q | q | q
    · rw [hk] at q; exact absurd q.1 (by decide)
    · rw [hk] at q; exact absurd q.1 (by decide)
    · rcases q.2.2.2 with r | r | r
      · rw [hk] at r; exact absurd r.1 (by decide)
      · rw [hk] at r; exact absurd r.1 (by decide)
      · obtain ⟨p, n, c, g1, g2, g3, g4, g5, g6, g7, g8⟩ := r.2
        exact ⟨p, n, g1, g2, g4, g5, g6⟩
  obtain ⟨p, n, g1, g2, g3, g4, g5⟩ := hx
  have e1 : (D 3 s ≤ D 15 5) = (sq D s ≤ bsN D) := by rw [hq.1, a4]; exact propext (i3_le (xi_lt _) (xi_lt _))
  have e2 : (D 15 5 - D 15 6 < D 3 s) = (bsN D - wpN D < sq D s) := by
    rw [a4, a5, i3_sub a7, hq.1]; exact propext (i3_lt (by omega) (xi_lt _))
  have e3 : (D 3 s - D 4 s = i3 (fsN D)) = (sq D s - p = fsN D) := by
    rw [hq.1, g4, i3_sub (by omega)]
    have := xi_lt (D 3 s)
    have hl : sq D s < 2147483648 := this
    have hf : fsN D < 2147483648 := by unfold fsN; split <;> omega
    exact propext (i3_eq (by omega) hf)
  have e4 : (D 5 s = i3 (wpN D)) = (n = wpN D) := by rw [g5]; exact propext (i3_eq (by omega) (by omega))
  unfold isWholeT
  simp only [e1, e2, e3, e4, hk, decide_true, Bool.true_and]
  rw [← Bool.decide_and]
  congr 1
  apply propext
  unfold fsN
  constructor
  · intro ⟨h1, h2⟩
    have hw : wpN D ≠ 0 := fun q => by have := a9 q; omega
    obtain ⟨t, ht, t1, t2, t3, t4⟩ := hC.1 (sq D s - (bsN D + 1 - wpN D)) (by omega)
    have hnt : isN D t := Or.inr (Or.inr t1)
    have hqt := node_seq (hN t ht) hnt
    have : D 3 s = D 3 t := by rw [hq.1, hqt.1, t2]; congr 1; omega
    have hSS := hS s t hs ht hn this
    rw [g4, t3] at hSS
    rw [g5, t4] at hSS
    have p1 := (i3_eq (by omega) (by omega)).mp hSS.2.1
    have p2 := (i3_eq (by omega) (by omega)).mp hSS.2.2.1
    rw [if_neg hw]
    omega
  · intro ⟨h1, h2⟩
    by_cases hw : wpN D = 0
    · rw [if_pos hw] at h1; omega
    · rw [if_neg hw] at h1; omega
end
