/-! ===== two packs compared ===== -/
section
variable {M : xM} {C : xC} {fu s t p q n k : Nat} {x y : Int64} {S T : Nat → Nat → Nat}
theorem cmp_0 : (lg_cmp x y = 0) = (x = y) := by
  unfold lg_cmp
  by_cases h : x > y
  · rw [if_pos h]
    have hne : ¬ x = y := fun e => by
      rw [e] at h
      have := Int64.lt_iff_toInt_lt.mp h
      omega
    exact propext ⟨fun q => absurd q (by decide), fun q => absurd q hne⟩
  · rw [if_neg h]
    by_cases e : x = y
    · rw [if_pos e]; exact propext ⟨fun _ => e, fun _ => rfl⟩
    · rw [if_neg e]; exact propext ⟨fun q => absurd q (by decide), fun q => absurd q e⟩
theorem t_areSame (h1 : p + 3 ≤ gN M 21 s) (h2 : q + 3 ≤ gN M 21 t) (h3 : gN M 21 s ≤ 1000) (h4 : gN M 21 t ≤ 1000) :
    F_X12_areSame fu (some s) (i3 p) (some t) (i3 q) M = some (bz (decide (gL M 21 s p = gL M 21 t q) && (decide (gL M 21 s (p + 1) = gL M 21 t (q + 1)) && decide (gL M 21 s (p + 2) = gL M 21 t (q + 2)))), M) := by
  have a1 : i3 p + 1 = i3 (p + 1) := i3_add p 1
  have a2 : i3 p + 2 = i3 (p + 2) := i3_add p 2
  have b1 : i3 q + 1 = i3 (q + 1) := i3_add q 1
  have b2 : i3 q + 2 = i3 (q + 2) := i3_add q 2
  unfold F_X12_areSame
  simp only [Option.bind_some, a1, a2, b1, b2, cmp_0]
  rw [xin_i3 (show p < gN M 21 s by omega) (by omega), xin_i3 (show q < gN M 21 t by omega) (by omega), xin_i3 (show p + 1 < gN M 21 s by omega) (by omega), xin_i3 (show q + 1 < gN M 21 t by omega) (by omega), xin_i3 (show p + 2 < gN M 21 s by omega) (by omega), xin_i3 (show q + 2 < gN M 21 t by omega) (by omega)]
  simp only [gd_t]
  rw [xi_i3 (show p < 2147483648 by omega), xi_i3 (show q < 2147483648 by omega), xi_i3 (show p + 1 < 2147483648 by omega), xi_i3 (show q + 1 < 2147483648 by omega), xi_i3 (show p + 2 < 2147483648 by omega), xi_i3 (show q + 2 < 2147483648 by omega)]
  by_cases c0 : gL M 21 s p = gL M 21 t q
  · rw [if_neg (fun w => w c0), decide_eq_true c0, Bool.true_and]
    by_cases c1 : gL M 21 s (p + 1) = gL M 21 t (q + 1)
    · rw [if_neg (fun w => w c1), decide_eq_true c1, Bool.true_and]
      by_cases c2 : gL M 21 s (p + 2) = gL M 21 t (q + 2)
      · rw [if_neg (fun w => w c2), decide_eq_true c2, xb_t]; rfl
      · rw [if_pos c2, decide_eq_false c2, xb_f]; rfl
    · rw [if_pos c1, decide_eq_false c1, Bool.false_and, xb_f]; rfl
  · rw [if_pos c0, decide_eq_false c0, Bool.false_and, xb_f]; rfl
/-- packs are alike just where their digits are -/
theorem pack_eq (hS : ∀ n k, S n k < 512) (hT : ∀ n k, T n k < 512) : Int64.ofNat (hor (S n) 7) = Int64.ofNat (hor (T n) 7) ↔ ∀ k, k < 7 → S n k = T n k := by
  have h1 := hor_lt (hS n) 7
  have h2 := hor_lt (hT n) 7
  constructor
  · intro h
    exact hor_inj (hS n) (hT n) (inj64 (by omega) (by omega) h)
  · intro h
    rw [hor_cg h 7 (Nat.le_refl _)]
end
