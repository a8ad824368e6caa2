/-! ===== an end against what there is ahead of a line ===== -/
section
variable {M : xM} {D E X : xT} {C : xC} {R : Nat → Int32} {fu n m i o p q a c k l s K P : Nat} {W : Nat → Nat} {V : Nat → Nat → Int32}
theorem t_sameAhead (h : Lay M) (hB : CB C) (hn : n ≤ 24) (hE : InE (startT C D) 0 0) (hr : Ran C R a n W V D X M) (hc : 1 ≤ c) (hcP : c ≤ wkP C R a W V D n) (hi : i ≤ n) :
    F_X12_areSame fu (some 5) (i3 (3 * c)) (some 6) (i3 (3 * i)) (mmb X M) = some (bz (alikeB (wkN C R a W V D n) (xi (wkN C R a W V D n 22 (c - 1))) (findT (wkN C R a W V D i) (tot C) 17)), mmb X M) := by
  obtain ⟨hPl, K, hEn⟩ := wkP_le (R := R) (a := a) (W := W) (V := V) hB hn hE
  rw [t_areSame (by rw [gN_mmb, n21_5 h]; omega) (by rw [gN_mmb, n21_6 h]; omega) (by rw [gN_mmb, n21_5 h]; omega) (by rw [gN_mmb, n21_6 h]; omega)]
  have c0 := hr.2.1 c hc hcP 0 (by omega)
  have o0 := hr.2.2 i hi 0 (by omega)
  rw [Nat.add_zero] at c0 o0
  have c1 := hr.2.1 c hc hcP 1 (by omega)
  have o1 := hr.2.2 i hi 1 (by omega)
  have c2 := hr.2.1 c hc hcP 2 (by omega)
  have o2 := hr.2.2 i hi 2 (by omega)
  have hq : ∀ m, Int64.ofNat (hor (ed (wkN C R a W V D n) c m) 7) = Int64.ofNat (hor (wkS C R a W V D i m) 7) ↔ ∀ k, k < 7 → ed (wkN C R a W V D n) c m k = wkS C R a W V D i m k := fun m =>
    pack_eq (S := ed (wkN C R a W V D n) c) (T := wkS C R a W V D i) (n := m) (fun n' => ed_lt (m := n') hB hn hE hc hcP) (fun n' => (wkS_lt (R := R) (a := a) (W := W) (V := V) (D := D) (n := i) (m := n') (p := 0) hB (by omega)).1)
  have hw : ∀ p, p < 20 → i3 (wkS C R a W V D i (p / 7) (p % 7)) - 1 = findT (wkN C R a W V D i) (tot C) 17 p := fun p hp => (wkS_lt (R := R) (a := a) (W := W) (V := V) (D := D) (n := i) (m := 0) (p := p) hB (by omega)).2 hp
  congr 3
  apply Bool.eq_iff_iff.mpr
  simp only [Bool.and_eq_true, decide_eq_true_eq, gL_mmb, c0, o0, c1, o1, c2, o2]
  rw [alike_iff]
  show _ ↔ ∀ p, p < 20 → NS (wkN C R a W V D n) (c - 1) p = findT (wkN C R a W V D i) (tot C) 17 p
  constructor
  · rintro ⟨a1, a2, a3⟩ p hp
    have all : ∀ m, m < 3 → ∀ k, k < 7 → ed (wkN C R a W V D n) c m k = wkS C R a W V D i m k := fun m hm => by
      match m, hm with
      | 0, _ => exact (hq 0).mp a1
      | 1, _ => exact (hq 1).mp a2
      | 2, _ => exact (hq 2).mp a3
    rw [← ed_says hB hn hE hc hcP hp, ← hw p hp, all (p / 7) (by omega) (p % 7) (Nat.mod_lt _ (by decide))]
  · intro w
    have all : ∀ m, m < 3 → ∀ k, k < 7 → ed (wkN C R a W V D n) c m k = wkS C R a W V D i m k := fun m hm k hk => by
      by_cases g : 7 * m + k < 20
      · have := w (7 * m + k) g
        rw [← ed_says hB hn hE hc hcP g, ← hw _ g, show (7 * m + k) / 7 = m by omega, show (7 * m + k) % 7 = k by omega] at this
        have b1 := ed_lt (R := R) (a := a) (W := W) (V := V) (m := m) hB hn hE hc hcP k
        have b2 := (wkS_lt (R := R) (a := a) (W := W) (V := V) (D := D) (n := i) (m := m) (p := 0) hB (by omega)).1 k
        have e := congrArg (fun z => z + 1) this
        simp only [Int32.sub_add_cancel] at e
        exact (i3_eq (by omega) (by omega)).mp e
      · unfold ed wkS dg
        rw [if_neg g, if_neg g]
    exact ⟨(hq 0).mpr (all 0 (by omega)), (hq 1).mpr (all 1 (by omega)), (hq 2).mpr (all 2 (by omega))⟩
end
