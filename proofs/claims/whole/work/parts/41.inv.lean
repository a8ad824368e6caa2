/-! ===== what holds of a disk between calls ===== -/
def sq (D : xT) (s : Nat) : Nat := xi (D 3 s)
def lsN (D : xT) : Nat := xi (D 14 10)
def bsN (D : xT) : Nat := xi (D 15 5)
def wpN (D : xT) : Nat := xi (D 15 6)
def fsN (D : xT) : Nat := if wpN D = 0 then 0 else bsN D + 1 - wpN D
def isN (D : xT) (s : Nat) : Prop := D 2 s = 1 ∨ D 2 s = 2 ∨ D 2 s = 3
def NodeOK (C : xC) (D : xT) (s : Nat) : Prop :=
  (D 2 s = 0 ∧ D 3 s = -1 ∧ D 4 s = -1 ∧ D 5 s = -1 ∧ D 6 s = -1) ∨ (D 2 s = 4 ∧ D 3 s = -1 ∧ D 4 s = -1 ∧ D 5 s = -1 ∧ D 6 s = -1) ∨
  (D 3 s = i3 (sq D s) ∧ 1 ≤ sq D s ∧ sq D s ≤ lsN D ∧
    ((D 2 s = 1 ∧ ∃ f p v, f < C 0 3 ∧ p < C 2 f ∧ v ≤ 255 ∧ D 4 s = i3 f ∧ D 5 s = i3 p ∧ D 6 s = i3 v) ∨
     (D 2 s = 2 ∧ D 5 s = -1 ∧ D 6 s = -1 ∧ ∃ f, f < C 0 3 ∧ D 4 s = i3 f) ∨
     (D 2 s = 3 ∧ ∃ p n c, p < n ∧ n ≤ 6 ∧ c ≤ 4 ∧ p < sq D s ∧ D 4 s = i3 p ∧ D 5 s = i3 n ∧ D 6 s = i3 c ∧
       ∀ i, i < c → ∃ z q, z < 20 ∧ D 7 (s * 4 + i) = i3 z ∧ D 8 (s * 4 + i) = i3 q ∧ 1 ≤ q ∧ q < sq D s)))
def InA (L : Nat) (D : xT) : Prop := D 14 10 = i3 (lsN D) ∧ lsN D ≤ L ∧ L < 1000000 ∧ D 15 5 = i3 (bsN D) ∧ D 15 6 = i3 (wpN D) ∧ bsN D ≤ lsN D ∧ wpN D ≤ bsN D ∧ wpN D ≤ 6 ∧ (wpN D = 0 → bsN D = 0)
def InN (C : xC) (D : xT) : Prop := ∀ s, s < tot C → NodeOK C D s
def InS (C : xC) (D : xT) : Prop := ∀ s t, s < tot C → t < tot C → isN D s → D 3 s = D 3 t → D 2 s = D 2 t ∧ D 4 s = D 4 t ∧ D 5 s = D 5 t ∧ D 6 s = D 6 t ∧
  (D 2 s = 3 → ∀ i, i < 4 → i3 i < D 6 s → D 7 (s * 4 + i) = D 7 (t * 4 + i) ∧ D 8 (s * 4 + i) = D 8 (t * 4 + i))
def InM (C : xC) (D : xT) : Prop := ∀ a, a < 20 → D 9 a = i3 (xi (D 9 a)) ∧ xi (D 9 a) ≤ lsN D ∧ ∀ s, s < tot C → D 2 s = 1 → D 9 a = D 3 s → pgT D s = a
def InC (C : xC) (D : xT) : Prop :=
  (∀ p, p < wpN D → ∃ s, s < tot C ∧ D 2 s = 3 ∧ sq D s = bsN D + 1 - wpN D + p ∧ D 4 s = i3 p ∧ D 5 s = i3 (wpN D)) ∧
  (∀ s, s < tot C → D 2 s = 3 → bsN D < sq D s → ∃ p, p < xi (D 5 s) ∧ ∀ t, t < tot C → ¬ (D 2 t = 3 ∧ sq D t + xi (D 4 s) = sq D s + p ∧ D 4 t = i3 p ∧ D 5 t = D 5 s)) ∧
  (∀ s t i j, s < tot C → t < tot C → D 2 s = 3 → D 2 t = 3 → sq D s + xi (D 4 t) = sq D t + xi (D 4 s) → i < 4 → j < 4 → i3 i < D 6 s → i3 j < D 6 t → D 7 (s * 4 + i) = D 7 (t * 4 + j) → D 8 (s * 4 + i) = D 8 (t * 4 + j)) ∧
  (∀ s t i, s < tot C → t < tot C → D 2 s = 3 → D 2 t = 1 → i < 4 → i3 i < D 6 s → D 3 t = D 8 (s * 4 + i) → pgT D t = xi (D 7 (s * 4 + i)))
def InO (D : xT) : Prop := (D 14 1 = 0 ∨ D 14 1 = 1) ∧ (∃ c, c ≤ 1000 ∧ D 14 2 = i3 c) ∧ ∀ f, f < 5 → (D 11 f = 0 ∨ D 11 f = 1) ∧ (D 12 f = 0 ∨ D 12 f = 1) ∧ (D 12 f = 1 → D 11 f = 1)
def survOK (C : xC) (D : xT) : Prop := D 14 14 = i3 (cnt (liveB D) (tot C)) ∧ D 14 15 = i3 (cnt (jourB D) (tot C)) ∧ (∀ s, s < tot C → D 13 s = bz (liveB D s)) ∧
  ∀ k, k < 6 → D 10 k = i3 (cnt (fun s => liveB D s && decide (s / C 0 1 = k)) (tot C))
def InV (C : xC) (D : xT) : Prop := D 14 11 = 0 ∨ D 14 11 = 1 ∧ survOK C D
/-- what the reference has looked up -/
def Lk (D X : xT) : Prop := X 0 20 = i3 (fsN D) ∧ X 0 21 = i3 (wpN D)
section
variable {M : xM} {D X : xT} {C : xC} {fu b L s o : Nat}
theorem node_kind (h : NodeOK C D s) : D 2 s = 0 ∨ D 2 s = 4 ∨ isN D s := by
  rcases h with h | h | h
  · exact Or.inl h.1
  · exact Or.inr (Or.inl h.1)
  · refine Or.inr (Or.inr ?_)
    rcases h.2.2.2 with q | q | q
    · exact Or.inl q.1
    · exact Or.inr (Or.inl q.1)
    · exact Or.inr (Or.inr q.1)
theorem isN_ne (h : isN D s) : D 2 s ≠ 0 ∧ D 2 s ≠ 4 := by
  rcases h with h | h | h <;> rw [h] <;> exact ⟨by decide, by decide⟩
theorem node_seq (h : NodeOK C D s) (hn : isN D s) : D 3 s = i3 (sq D s) ∧ 1 ≤ sq D s ∧ sq D s ≤ lsN D := by
  have := isN_ne hn
  rcases h with h | h | h
  · exact absurd h.1 this.1
  · exact absurd h.1 this.2
  · exact ⟨h.1, h.2.1, h.2.2.1⟩
theorem node_not (h : NodeOK C D s) (hn : ¬ isN D s) : D 3 s = -1 := by
  rcases h with h | h | h
  · exact h.2.1
  · exact h.2.1
  · exfalso; apply hn
    rcases h.2.2.2 with q | q | q
    · exact Or.inl q.1
    · exact Or.inr (Or.inl q.1)
    · exact Or.inr (Or.inr q.1)
theorem xi_lt (x : Int32) : xi x < 2147483648 := Int32.toNatClampNeg_lt x
theorem seq_ne (hs : NodeOK C D s) (ho : NodeOK C D o) (hn : isN D s) (h : ¬ isN D o) : ¬ D 3 o = D 3 s := by
  have a := node_seq hs hn
  rw [node_not ho h, a.1]
  intro e
  have := i3_nn (a := sq D s) (xi_lt _)
  exact this.mp e.symm
theorem t_isFirst (h : Lay M) (hb : b ≤ 2140) (hB : CB C) (hR : Rel C b D X) (hN : InN C D) (hf : 100 < fu) {s : Nat} (hs : s < tot C) (hk : isN D s) : F_X12_isFirst fu 0 (i3 b) (i3 s) (mmb X M) = some (bz (isLeastT D s), mmb X M) := by
  have h36 := tot36 hB
  have hne := isN_ne hk
  unfold F_X12_isFirst isLeastT
  have := lpx (fun n i => L_X12_isFirst_2 fu n 0 (i3 b) (i3 s) (i3 i) (mmb X M)) (fun o => decide (D 3 o = D 3 s)) s (some (1, mmb X M)) (fun _ => some (0, mmb X M)) ?_ ?_ ?_ fu (by omega)
  · refine Eq.trans this ?_
    cases lst (fun o => decide (D 3 o = D 3 s)) s <;> rfl
  · intro n i hi hp
    show L_X12_isFirst_2 fu (n + 1) 0 (i3 b) (i3 s) (i3 i) (mmb X M) = L_X12_isFirst_2 fu n 0 (i3 b) (i3 s) (i3 (i + 1)) (mmb X M)
    simp only [decide_eq_false_iff_not] at hp
    conv => lhs; unfold L_X12_isFirst_2
    rw [if_neg (by rw [i3_le (by omega) (by omega)]; omega), t_typeOf h hb hB hR (by omega), Option.bind_some]
    simp only [i3_add1]
    by_cases c0 : D 2 i = 0
    · simp only [c0, if_true]
    · by_cases c4 : D 2 i = 4
      · simp only [c4, if_true, show ¬ (4 : Int32) = 0 from by decide, if_false]
      · simp only [c0, c4, if_false]
        rw [t_numberOf h hb hB hR (by omega) c0, Option.bind_some, t_numberOf h hb hB hR hs hne.1, Option.bind_some, if_pos hp]
  · intro n i hi hp
    show L_X12_isFirst_2 fu (n + 1) 0 (i3 b) (i3 s) (i3 i) (mmb X M) = _
    simp only [decide_eq_true_eq] at hp
    have hin : isN D i := Classical.byContradiction fun q => seq_ne (hN s hs) (hN i (by omega)) hk q hp
    have hne2 := isN_ne hin
    conv => lhs; unfold L_X12_isFirst_2
    rw [if_neg (by rw [i3_le (by omega) (by omega)]; omega), t_typeOf h hb hB hR (by omega), Option.bind_some]
    simp only [hne2.1, hne2.2, if_false]
    rw [t_numberOf h hb hB hR (by omega) hne2.1, Option.bind_some, t_numberOf h hb hB hR hs hne.1, Option.bind_some, if_neg (by simpa using hp)]
    rfl
  · intro n
    show L_X12_isFirst_2 fu (n + 1) 0 (i3 b) (i3 s) (i3 s) (mmb X M) = _
    conv => lhs; unfold L_X12_isFirst_2
    rw [if_pos (Int32.le_refl _)]
    rfl
end
