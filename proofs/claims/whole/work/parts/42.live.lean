/-! ===== what is live, as the reference sees it ===== -/
section
variable {M : xM} {D X : xT} {C : xC} {fu b L s o : Nat}
theorem t_base (hA : InA L D) (hL : Lk D X) : F_X12_base fu 0 (mmb X M) = some (i3 (bsN D), mmb X M) := by
  obtain ⟨a1, a2, a3, a4, a5, a6, a7, a8, a9⟩ := hA
  unfold F_X12_base
  simp only [m_0, hL.1, hL.2]
  unfold fsN
  by_cases c : wpN D = 0
  · simp only [c, if_true]
    rw [if_neg (by rw [show i3 0 = (0 : Int32) from rfl]; exact fun q => q rfl), a9 c]
    rfl
  · simp only [c, if_false]
    have q : ¬ (i3 (bsN D + 1 - wpN D) = 0) := fun e => by have := (i3_eq (b := 0) (by omega) (by omega)).mp e; omega
    rw [if_pos q, i3_add, show bsN D + 1 - wpN D + wpN D = bsN D + 1 by omega]
    rw [show (1 : Int32) = i3 1 from rfl, i3_sub (by omega), Nat.add_sub_cancel]
theorem t_isJournal (h : Lay M) (hb : b ≤ 2140) (hB : CB C) (hR : Rel C b D X) (hA : InA L D) (hN : InN C D) (hL : Lk D X) (hf : 100 < fu) {s : Nat} (hs : s < tot C) : F_X12_isJournal fu 0 (i3 b) (i3 s) (mmb X M) = some (bz (jourB D s), mmb X M) := by
  have key : isN D s → J_X12_isJournal_17 fu 0 (i3 b) (i3 s) (mmb X M) = some (bz (decide (D 15 5 < D 3 s) && isLeastT D s), mmb X M) := by
    intro hk
    unfold J_X12_isJournal_17
    rw [t_numberOf h hb hB hR hs (isN_ne hk).1, Option.bind_some, t_base hA hL, Option.bind_some, ← hA.2.2.2.1]
    by_cases c : D 3 s ≤ D 15 5
    · rw [if_pos c, decide_eq_false (Int32.not_lt.mpr c)]; rfl
    · rw [if_neg c, decide_eq_true (Int32.not_le.mp c), t_isFirst h hb hB hR hN hf hs hk, Option.bind_some]
      cases isLeastT D s <;> rfl
  unfold F_X12_isJournal jourB isJourT
  rw [t_typeOf h hb hB hR hs, Option.bind_some]
  by_cases k1 : D 2 s = 1
  · rw [if_pos k1, key (Or.inl k1)]; simp [k1]
  · rw [if_neg k1]
    by_cases k2 : D 2 s = 2
    · rw [if_neg (by simpa using k2), key (Or.inr (Or.inl k2))]; simp [k2]
    · rw [if_pos k2]; simp [k1, k2, bz, gd_t, xb0]
end
