/-! ===== the reference behind its runs, in words of the notes ===== -/
/-- the digits of what is noted of put c (from 1) -/
def ed (E : xT) (c n k : Nat) : Nat := if 7 * n + k < 20 then xi (NS E (c - 1) (7 * n + k) + 1) else 0
section
variable {M : xM} {D E X Y Z T N X' E' E0 Tc : xT} {C : xC} {R G G' : Nat → Int32} {fu b d L L' s o t k n m i j p q f l w nb nw a r g c e B K P Q : Nat} {x y z v u : Int32} {nt : Bool} {W : Nat → Nat} {V : Nat → Nat → Int32} {S : Nat → Nat → Nat → Nat} {S1 S2 : Nat → Nat → Nat}
theorem ahM_at : ∀ i, gL (ahM S i M) 21 d k = if d = 6 ∧ k < 3 * i then Int64.ofNat (hor (S (k / 3) (k % 3)) 7) else gL M 21 d k
  | 0 => by rw [if_neg (by omega)]; rfl
  | i + 1 => by
    show gL (packM (ahM S i M) 6 (3 * i) (S i) 3) 21 d k = _
    rw [packM_at (Nat.le_refl _), ahM_at i]
    by_cases c1 : d = 6 ∧ 3 * i ≤ k ∧ k < 3 * i + 3
    · rw [if_pos c1, if_pos (by omega), show k - 3 * i = k % 3 by omega, show k / 3 = i by omega]
    · rw [if_neg c1]
      by_cases c2 : d = 6 ∧ k < 3 * i
      · rw [if_pos c2, if_pos (by omega)]
      · rw [if_neg c2, if_neg (by omega)]
theorem ran_ends (hB : CB C) (hn : n ≤ 24) (hE : InE (startT C D) 0 0) (hc : 1 ≤ c) (hcP : c ≤ wkP C R a W V D n) (hm : m < 3) :
    gL (endM (fun c => dg C (mountT (cutD C R a W V D N n c) (C 0 0) (C 0 1))) 1 (wkP C R a W V D n) M) 21 5 (3 * c + m) = Int64.ofNat (hor (ed (wkN C R a W V D n) c m) 7) := by
  rw [endM_at, if_pos ⟨rfl, by omega, by omega⟩, show (3 * c + m) / 3 = c by omega, show (3 * c + m) % 3 = m by omega]
  congr 2
  funext k
  unfold dg ed sv
  by_cases h : 7 * m + k < 20
  · rw [if_pos h, if_pos h, cut_says hB hn hE hc hcP h]
  · rw [if_neg h, if_neg h]
theorem ran_ahead (hi : i ≤ n) (hm : m < 3) : gL (endM S 1 P (ahM (wkS C R a W V D) (n + 1) M)) 21 6 (3 * i + m) = Int64.ofNat (hor (wkS C R a W V D i m) 7) := by
  rw [endM_at, if_neg (by omega), ahM_at, if_pos ⟨rfl, by omega⟩, show (3 * i + m) / 3 = i by omega, show (3 * i + m) % 3 = m by omega]
theorem ed_lt (hB : CB C) (hn : n ≤ 24) (hE : InE (startT C D) 0 0) (hc : 1 ≤ c) (hcP : c ≤ wkP C R a W V D n) : ∀ k, ed (wkN C R a W V D n) c m k < 512 := by
  intro k
  unfold ed
  by_cases h : 7 * m + k < 20
  · obtain ⟨w, w1, w2⟩ := NS_ok (R := R) (a := a) (W := W) (V := V) hB hn hE hc hcP h
    rw [if_pos h, w2, xi_i3 (by omega)]
    omega
  · rw [if_neg h]; omega
/-- a page of an end, read -/
theorem ed_says (hB : CB C) (hn : n ≤ 24) (hE : InE (startT C D) 0 0) (hc : 1 ≤ c) (hcP : c ≤ wkP C R a W V D n) (hp : p < 20) : i3 (ed (wkN C R a W V D n) c (p / 7) (p % 7)) - 1 = NS (wkN C R a W V D n) (c - 1) p := by
  obtain ⟨w, w1, w2⟩ := NS_ok (R := R) (a := a) (W := W) (V := V) hB hn hE hc hcP hp
  unfold ed
  rw [if_pos (by omega), show 7 * (p / 7) + p % 7 = p by omega, w2, xi_i3 (by omega), ← w2]
  simp
theorem endM_N : ∀ (m c : Nat) {M : xM}, gN (endM S c m M) = gN M
  | 0, _, _ => rfl
  | m + 1, c, M => (endM_N m (c + 1)).trans packM_N
theorem ahM_N : ∀ i, gN (ahM S i M) = gN M
  | 0 => rfl
  | i + 1 => packM_N.trans (ahM_N i)
end
