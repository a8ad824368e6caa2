/-! ===== what is left behind a cut: both sides ===== -/
section
variable {M : xM} {D E X Y Z T N X' E' E0 Tc : xT} {C : xC} {R G G' : Nat → Int32} {fu b d L L' s o t k n m i j p q f l w nb nw a r g c e B K P Q : Nat} {x y z v u : Int32} {nt : Bool} {W : Nat → Nat} {V : Nat → Nat → Int32} {S1 : Nat → Nat}
/-- the law of a cut: cut at put c and mounted, a page says what is noted of that put -/
theorem cut_says (hB : CB C) (hn : n ≤ 24) (hE : InE (startT C D) 0 0) (hc : 1 ≤ c) (hcP : c ≤ wkP C R a W V D n) (hp : p < 20) : saysT C (mountT (cutD C R a W V D N n c) (C 0 0) (C 0 1)) p = NS (wkN C R a W V D n) (c - 1) p := by
  obtain ⟨hPl, K, hEn⟩ := wkP_le (R := R) (a := a) (W := W) (V := V) hB hn hE
  rcases wk_cut (N := N) (R := R) (a := a) (W := W) (V := V) hB (Inv_startF (C := C) (D := D) hB) (InV_startF hB) (by omega) stF_142 (InE_stF hE) hc (by omega) n hn with ⟨q1, -⟩ | ⟨q1, L', d1, d2, d3⟩
  · have e : wkP C R a W V D n = xi (wkF C R a true W V (startF C D) n 24 0) := rfl
    omega
  · rw [stF_cuA] at d2 d3
    exact (says_mount hB d2 hp).trans (d3 p hp)
/-- a note's value lies where a value may -/
theorem NS_ok (hB : CB C) (hn : n ≤ 24) (hE : InE (startT C D) 0 0) (hc : 1 ≤ c) (hcP : c ≤ wkP C R a W V D n) (hp : p < 20) : ∃ m, m ≤ 256 ∧ NS (wkN C R a W V D n) (c - 1) p + 1 = i3 m := by
  obtain ⟨hPl, K, hEn⟩ := wkP_le (R := R) (a := a) (W := W) (V := V) hB hn hE
  rw [← cut_says (N := D) hB hn hE hc hcP hp]
  have hIc := Inv_cuA (c := c) (N := D) (Inv_start (C := C) (D := D) hB) (by omega)
  obtain ⟨i1, -⟩ := wk_Inv (R := R) (a := a) (W := W) (V := V) hB hIc (InV_cuA InV_start) (by omega) false n hn
  exact says_ok (Inv_mount hB i1).2.2.1
theorem t_saysIn (hS : ∀ k, S1 k < 512) (hl : gL M 21 t (q + p / 7) = Int64.ofNat (hor S1 7)) (hN : q + p / 7 < gN M 21 t) (hN2 : gN M 21 t ≤ 1000) (hp : p < 100) : F_X12_saysIn fu (some t) (i3 q) (i3 p) M = some (i3 (S1 (p % 7)) - 1, M) := by
  have e7 : (!((7 : Int32) == 0)) = true := by decide
  have d7 : i3 p / 7 = i3 (p / 7) := by rw [show (7 : Int32) = i3 7 from rfl, i3_div (by omega) (by omega)]
  have m7 : i3 p - i3 (p / 7) * 7 = i3 (p % 7) := by
    rw [show (7 : Int32) = i3 7 from rfl, i3_mul, i3_sub (by omega)]
    congr 1; omega
  have m9 : (9 : Int32) * i3 (p % 7) = i3 (9 * (p % 7)) := by rw [show (9 : Int32) = i3 9 from rfl, i3_mul]
  have hlt := hor_lt hS 7
  have hd := hor_dig hS 7 (p % 7) (Nat.le_refl _) (Nat.mod_lt _ (by decide))
  unfold F_X12_saysIn
  rw [e7, gd_t]
  simp only [Option.bind_some]
  rw [gd_t, d7, i3_add, xin_i3 hN (by omega), gd_t, xi_i3 (by omega), hl, m7, m9]
  rw [show i3 (9 * (p % 7)) = Int32.ofNat (9 * (p % 7)) from rfl, amt64 _ (Nat.mod_lt _ (by decide)), sh64 _ _ (by omega) (Nat.mod_lt _ (by decide)), to32, pow9, hd]
  rw [show 7 - 7 + p % 7 = p % 7 by omega]
  rfl
end
