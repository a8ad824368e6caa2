/-! ===== a work, cut and noted ===== -/
/-- behind a noted line the finder looks -/
def fndW (nt : Bool) (C : xC) (E : xT) : xT := if nt then findT E (tot C) else E
/-- the first n lines of a work: kind, file, page, value of each -/
def wkF (C : xC) (R : Nat → Int32) (a : Nat) (nt : Bool) (W : Nat → Nat) (V : Nat → Nat → Int32) (D : xT) : Nat → xT
  | 0 => D
  | n + 1 => fndW nt C (didT C R a nt (wkF C R a nt W V D n) (W n) (V n 0) (V n 1) (V n 2)).2
section
variable {M : xM} {D E X Y Z T N X' E' E0 Tc : xT} {C : xC} {R G G' : Nat → Int32} {fu b d L L' s o t k n m i j p q f l w nb nw a r g c e B K P Q : Nat} {x y z v u : Int32} {nt : Bool} {W : Nat → Nat} {V : Nat → Nat → Int32}
theorem fndW_lo (h : j < 16 ∨ 19 < j) : fndW nt C E j k = E j k := by
  unfold fndW
  split
  · exact findT_lo h
  · rfl
theorem fndW_cuA : cutAs c (fndW nt C E) N = cutAs c E N := cuA_cg (fun j k h1 h2 => fndW_lo (by omega))
theorem fndW_as (h : E 14 2 = i3 c) : fndW nt C E = cutAs c E (fndW nt C E) := by
  funext j k
  unfold cutAs
  by_cases h1 : j = 14 ∧ k = 2
  · rw [if_pos h1, h1.1, h1.2, fndW_lo (by omega), h]
  · rw [if_neg h1]
    by_cases h2 : 16 ≤ j ∧ j ≤ 24
    · rw [if_pos h2]
    · rw [if_neg h2, fndW_lo (by omega)]
theorem Inv_fnd (hI : Inv C L E) (nt : Bool) : Inv C L (fndW nt C E) := by
  obtain ⟨c, hc, h⟩ := hI.2.2.2.2.2.2.1.2.1
  rw [fndW_as h]
  exact Inv_cuA hI hc
theorem InV_fnd (hV : InV C E) (hI : Inv C L E) (nt : Bool) : InV C (fndW nt C E) := by
  obtain ⟨c, hc, h⟩ := hI.2.2.2.2.2.2.1.2.1
  rw [fndW_as h]
  exact hV
theorem InE_fnd (hE : InE E P K) (nt : Bool) : InE (fndW nt C E) P K ∧ ∀ p a, NS (fndW nt C E) p a = NS E p a := InE_cg (fun j k h1 h2 => fndW_lo (by omega)) hE
theorem mayB_off (h : D 14 1 = 0) : mayB C D x y = false := by unfold mayB; rw [h]; rfl
theorem did_off (h : D 14 1 = 0) : (didT C R a nt D k x y v).2 = D := by
  unfold didT
  split
  · unfold writeT; rw [mayB_off h]; rfl
  split
  · unfold removeT; rw [h]; rfl
  split
  · unfold openT; rw [h]; rfl
  split
  · unfold closeT; rw [h]; rfl
  split
  · unfold commitT; rw [if_pos h]
  · unfold collectT pickT; rw [if_pos h]
theorem wk_Inv (hB : CB C) (hI : Inv C L D) (hV : InV C D) (hL : L + 200 < 1000000) (nt : Bool) : ∀ n, n ≤ 24 → Inv C (L + 8 * n) (wkF C R a nt W V D n) ∧ InV C (wkF C R a nt W V D n)
  | 0, _ => ⟨hI, hV⟩
  | n + 1, hn => by
    obtain ⟨h1, h2⟩ := wk_Inv hB hI hV hL nt n (by omega)
    have := Inv_did (R := R) (a := a) (k := W n) (x := V n 0) (y := V n 1) (v := V n 2) hB h1 h2 (by omega) nt
    exact ⟨Inv_le (Inv_fnd this.1 nt) (by omega) (by omega), InV_fnd this.2 this.1 nt⟩
/-- the notes of a work: how many ahead of each line -/
theorem wk_notes (hB : CB C) (hI : Inv C L D) (hV : InV C D) (hL : L + 200 < 1000000) (h2 : D 14 2 = 0) (hE : InE D 0 0) : ∀ n, n ≤ 24 → ∃ P K, P ≤ 12 * n ∧ InE (wkF C R a true W V D n) P K ∧ wkF C R a true W V D n 14 2 = 0
  | 0, _ => ⟨0, 0, by omega, hE, h2⟩
  | n + 1, hn => by
    obtain ⟨P, K, p1, p2, p3⟩ := wk_notes hB hI hV hL h2 hE n (by omega)
    obtain ⟨i1, i2⟩ := wk_Inv (R := R) (a := a) (W := W) (V := V) hB hI hV hL true n (by omega)
    obtain ⟨d0, q, K', w1, w2, w3, w4, -⟩ := Om_did (R := R) (a := a) (k := W n) (x := V n 0) (y := V n 1) (v := V n 2) (N := D) (c := 1) hB i1 i2 (by omega) p3 p2 (by omega) (by omega) (by omega)
    exact ⟨P + q, K', by omega, (InE_fnd w2 true).1, (fndW_lo (by omega)).trans w4⟩
theorem InE_P (h : InE D P K) : P = xi (D 24 0) := by rw [h.2.2.1, xi_i3 (by have := h.1; omega)]
/-- notes stay -/
theorem wk_keep (hB : CB C) (hI : Inv C L D) (hV : InV C D) (hL : L + 200 < 1000000) (h2 : D 14 2 = 0) (hE : InE D 0 0) : ∀ m n, n + m ≤ 24 → xi (wkF C R a true W V D n 24 0) ≤ xi (wkF C R a true W V D (n + m) 24 0) ∧ ∀ p, p < xi (wkF C R a true W V D n 24 0) → ∀ a', a' < 20 → NS (wkF C R a true W V D (n + m)) p a' = NS (wkF C R a true W V D n) p a'
  | 0, n, _ => ⟨Nat.le_refl _, fun p hp a' ha => rfl⟩
  | m + 1, n, hn => by
    obtain ⟨ih1, ih2⟩ := wk_keep hB hI hV hL h2 hE m n (by omega)
    obtain ⟨P, K, p1, p2, p3⟩ := wk_notes (R := R) (a := a) (W := W) (V := V) hB hI hV hL h2 hE (n + m) (by omega)
    obtain ⟨i1, i2⟩ := wk_Inv (R := R) (a := a) (W := W) (V := V) hB hI hV hL true (n + m) (by omega)
    obtain ⟨d0, q, K', w1, w2, w3, w4, -⟩ := Om_did (R := R) (a := a) (k := W (n + m)) (x := V (n + m) 0) (y := V (n + m) 1) (v := V (n + m) 2) (N := D) (c := 1) hB i1 i2 (by omega) p3 p2 (by omega) (by omega) (by omega)
    have e1 := InE_P p2
    have e2 := InE_P w2
    have e3 : wkF C R a true W V D (n + (m + 1)) = fndW true C (didT C R a true (wkF C R a true W V D (n + m)) (W (n + m)) (V (n + m) 0) (V (n + m) 1) (V (n + m) 2)).2 := rfl
    have e4 : fndW true C (didT C R a true (wkF C R a true W V D (n + m)) (W (n + m)) (V (n + m) 0) (V (n + m) 1) (V (n + m) 2)).2 24 0 = (didT C R a true (wkF C R a true W V D (n + m)) (W (n + m)) (V (n + m) 0) (V (n + m) 1) (V (n + m) 2)).2 24 0 := fndW_lo (by omega)
    rw [e3, e4]
    exact ⟨by omega, fun p hp a' ha => ((InE_fnd (C := C) w2 true).2 p a').trans ((w3 p (by omega) a' ha).trans (ih2 p hp a' ha))⟩
/-- the work cut at put c: in step, or cut, and a mount finds what the note of that put tells -/
theorem wk_cut (hB : CB C) (hI : Inv C L D) (hV : InV C D) (hL : L + 200 < 1000000) (h2 : D 14 2 = 0) (hE : InE D 0 0) (hc : 1 ≤ c) (hc2 : c ≤ 1000) : ∀ n, n ≤ 24 →
    (xi (wkF C R a true W V D n 24 0) < c ∧ wkF C R a false W V (cutAs c D N) n = cutAs (c - xi (wkF C R a true W V D n 24 0)) (wkF C R a true W V D n) N) ∨
    (c ≤ xi (wkF C R a true W V D n 24 0) ∧ ∃ L', Dead C L' (wkF C R a true W V D n) (wkF C R a false W V (cutAs c D N) n) (c - 1))
  | 0, _ => by
    have e := InE_P hE
    left
    show xi (D 24 0) < c ∧ cutAs c D N = cutAs (c - xi (D 24 0)) D N
    rw [← e]
    exact ⟨by omega, rfl⟩
  | n + 1, hn => by
    have ih := wk_cut hB hI hV hL h2 hE hc hc2 n (by omega)
    obtain ⟨P, K, p1, p2, p3⟩ := wk_notes (R := R) (a := a) (W := W) (V := V) hB hI hV hL h2 hE n (by omega)
    obtain ⟨i1, i2⟩ := wk_Inv (R := R) (a := a) (W := W) (V := V) hB hI hV hL true n (by omega)
    have e1 := InE_P p2
    have e3 : wkF C R a true W V D (n + 1) = fndW true C (didT C R a true (wkF C R a true W V D n) (W n) (V n 0) (V n 1) (V n 2)).2 := rfl
    have e4 : wkF C R a false W V (cutAs c D N) (n + 1) = (didT C R a false (wkF C R a false W V (cutAs c D N) n) (W n) (V n 0) (V n 1) (V n 2)).2 := rfl
    rcases ih with ⟨q1, q2⟩ | ⟨q1, L', q2⟩
    · rw [← e1] at q1 q2
      obtain ⟨d0, q, K', w1, w2, w3, w4, w5⟩ := Om_did (R := R) (a := a) (k := W n) (x := V n 0) (y := V n 1) (v := V n 2) (N := N) (c := c - P) hB i1 i2 (by omega) p3 p2 (by omega) (by omega) (by omega)
      have e2 := InE_P w2
      have e5 : fndW true C (didT C R a true (wkF C R a true W V D n) (W n) (V n 0) (V n 1) (V n 2)).2 24 0 = (didT C R a true (wkF C R a true W V D n) (W n) (V n 0) (V n 1) (V n 2)).2 24 0 := fndW_lo (by omega)
      have e6 := (InE_fnd (C := C) w2 true).2
      rw [e4, q2, e3, e5, ← e2, fndW_cuA]
      rcases w5 with ⟨u1, u2⟩ | ⟨u1, u2, L', u3⟩
      · left
        refine ⟨by omega, ?_⟩
        rw [u2, show c - (P + q) = c - P - q by omega]
      · right
        rw [show P + (c - P) - 1 = c - 1 by omega] at u3
        exact ⟨by omega, L', u3.1, u3.2.1, fun a' ha => by rw [e6]; exact u3.2.2 a' ha⟩
    · right
      have hk := wk_keep (R := R) (a := a) (W := W) (V := V) hB hI hV hL h2 hE 1 n (by omega)
      obtain ⟨d1, d2, d3⟩ := q2
      refine ⟨Nat.le_trans q1 hk.1, L', ?_⟩
      rw [e4, did_off d1]
      exact ⟨d1, d2, fun a' ha => by rw [hk.2 (c - 1) (by omega) a' ha]; exact d3 a' ha⟩
end
