/-! ===== two ends alike, in the reference ===== -/
section
variable {M : xM} {D E X : xT} {C : xC} {R : Nat → Int32} {fu n m o p q a c k K P : Nat} {W : Nat → Nat} {V : Nat → Nat → Int32}
theorem ed_same (hB : CB C) (hn : n ≤ 24) (hE : InE (startT C D) 0 0) (hc : 1 ≤ c) (hcP : c ≤ wkP C R a W V D n) (ho : 1 ≤ o) (hoP : o ≤ wkP C R a W V D n) :
    (∀ m, m < 3 → Int64.ofNat (hor (ed (wkN C R a W V D n) c m) 7) = Int64.ofNat (hor (ed (wkN C R a W V D n) o m) 7)) ↔ ∀ p, p < 20 → NS (wkN C R a W V D n) (c - 1) p = NS (wkN C R a W V D n) (o - 1) p := by
  have hq : ∀ m, Int64.ofNat (hor (ed (wkN C R a W V D n) c m) 7) = Int64.ofNat (hor (ed (wkN C R a W V D n) o m) 7) ↔ ∀ k, k < 7 → ed (wkN C R a W V D n) c m k = ed (wkN C R a W V D n) o m k := fun m =>
    pack_eq (S := ed (wkN C R a W V D n) c) (T := ed (wkN C R a W V D n) o) (n := m) (fun n' => ed_lt (m := n') hB hn hE hc hcP) (fun n' => ed_lt (m := n') hB hn hE ho hoP)
  constructor
  · intro h p hp
    have := (hq (p / 7)).mp (h (p / 7) (by omega)) (p % 7) (Nat.mod_lt _ (by decide))
    rw [← ed_says hB hn hE hc hcP hp, ← ed_says hB hn hE ho hoP hp, this]
  · intro h m hm
    refine (hq m).mpr (fun k hk => ?_)
    unfold ed
    by_cases w : 7 * m + k < 20
    · rw [if_pos w, if_pos w, h _ w]
    · rw [if_neg w, if_neg w]
theorem t_sameEnds (h : Lay M) (hB : CB C) (hn : n ≤ 24) (hE : InE (startT C D) 0 0) (hr : Ran C R a n W V D X M) (hc : 1 ≤ c) (hcP : c ≤ wkP C R a W V D n) (ho : 1 ≤ o) (hoP : o ≤ wkP C R a W V D n) :
    F_X12_areSame fu (some 5) (i3 (3 * c)) (some 5) (i3 (3 * o)) (mmb X M) = some (bz (decide (xi (wkN C R a W V D n 22 (c - 1)) = xi (wkN C R a W V D n 22 (o - 1)))), mmb X M) := by
  obtain ⟨hPl, K, hEn⟩ := wkP_le (R := R) (a := a) (W := W) (V := V) hB hn hE
  rw [t_areSame (by rw [gN_mmb, n21_5 h]; omega) (by rw [gN_mmb, n21_5 h]; omega) (by rw [gN_mmb, n21_5 h]; omega) (by rw [gN_mmb, n21_5 h]; omega)]
  have c0 := hr.2.1 c hc hcP 0 (by omega)
  have o0 := hr.2.1 o ho hoP 0 (by omega)
  rw [Nat.add_zero] at c0 o0
  have c1 := hr.2.1 c hc hcP 1 (by omega)
  have o1 := hr.2.1 o ho hoP 1 (by omega)
  have c2 := hr.2.1 c hc hcP 2 (by omega)
  have o2 := hr.2.1 o ho hoP 2 (by omega)
  have h1 := ed_same (R := R) (a := a) (W := W) (V := V) hB hn hE hc hcP ho hoP
  have h2 := same_map (p := c - 1) (q := o - 1) hEn (by omega) (by omega)
  congr 3
  apply Bool.eq_iff_iff.mpr
  simp only [Bool.and_eq_true, decide_eq_true_eq, gL_mmb, c0, o0, c1, o1, c2, o2]
  rw [← h2, ← h1]
  constructor
  · rintro ⟨a1, a2, a3⟩ m hm
    match m, hm with
    | 0, _ => exact a1
    | 1, _ => exact a2
    | 2, _ => exact a3
  · intro w
    exact ⟨w 0 (by omega), w 1 (by omega), w 2 (by omega)⟩
end
