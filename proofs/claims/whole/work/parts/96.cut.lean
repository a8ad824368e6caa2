/-! ===== a work cut at a put against the work whose puts are noted: in step ===== -/
/-- as D, to be cut at put c from here, with other notes -/
def cutAs (c : Nat) (D N : xT) : xT := fun j k => if j = 14 ∧ k = 2 then i3 c else if 16 ≤ j ∧ j ≤ 24 then N j k else D j k
section
variable {M : xM} {D E X Y Z T N X' E' E0 : xT} {C : xC} {R G G' : Nat → Int32} {fu b d L s o t k n m i j p q f l w nb nw a r g c e K P Q : Nat} {x y z v u : Int32} {nt : Bool}
theorem cuA_r (h : j < 16 ∨ 24 < j) (h2 : j ≠ 14 ∨ k ≠ 2) : cutAs c D N j k = D j k := by
  unfold cutAs
  rw [if_neg (by omega), if_neg (by omega)]
theorem cuA_2 : cutAs c D N 14 2 = i3 c := by unfold cutAs; rw [if_pos ⟨rfl, rfl⟩]
theorem cuA_up (h : j < 16 ∨ 24 < j) (h2 : j ≠ 14 ∨ k ≠ 2) : up (cutAs c D N) j k v = cutAs c (up D j k v) N := by
  funext j' k'
  rw [up_at]
  unfold cutAs
  by_cases e : j' = j ∧ k' = k
  · rw [if_pos e, if_neg (by omega), if_neg (by omega), up_at, if_pos e]
  · rw [if_neg e]
    by_cases e1 : j' = 14 ∧ k' = 2
    · rw [if_pos e1, if_pos e1]
    · rw [if_neg e1, if_neg e1]
      by_cases e2 : 16 ≤ j' ∧ j' ≤ 24
      · rw [if_pos e2, if_pos e2]
      · rw [if_neg e2, if_neg e2, up_at, if_neg e]
theorem cuA_cut : up (cutAs c D N) 14 2 (i3 m) = cutAs m D N := by
  funext j' k'
  rw [up_at]
  unfold cutAs
  by_cases e : j' = 14 ∧ k' = 2
  · rw [if_pos e, if_pos e]
  · rw [if_neg e, if_neg e, if_neg e]
theorem cuA_cg (h : ∀ j k, (j < 16 ∨ 24 < j) → (j ≠ 14 ∨ k ≠ 2) → E j k = D j k) : cutAs c E N = cutAs c D N := by
  funext j' k'
  unfold cutAs
  by_cases e : j' = 14 ∧ k' = 2
  · rw [if_pos e, if_pos e]
  · rw [if_neg e, if_neg e]
    by_cases e2 : 16 ≤ j' ∧ j' ≤ 24
    · rw [if_pos e2, if_pos e2]
    · rw [if_neg e2, if_neg e2, h j' k' (by omega) (by omega)]
theorem fill_cb : fillT (cutAs c D N) s x y z v u = cutAs c (fillT D s x y z v u) N := by
  unfold fillT
  rw [cuA_up (by omega) (by omega), cuA_up (by omega) (by omega), cuA_up (by omega) (by omega), cuA_up (by omega) (by omega), cuA_up (by omega) (by omega)]
theorem kept_cb : keptT (cutAs c D N) = keptT D := rfl
theorem live_cb : liveB (cutAs c D N) = liveB D := rfl
theorem jour_cb : jourB (cutAs c D N) = jourB D := rfl
theorem fresh_cb : ∀ n, freshF (cutAs c D N) n = freshF D n
  | 0 => rfl
  | n + 1 => by
    have e := fresh_cb n
    unfold freshF
    rw [e]
    rfl
theorem takeAt_cb : takeAt (cutAs c D N) nw k = ((takeAt D nw k).1, cutAs c (takeAt D nw k).2 N) := by
  unfold takeAt
  have e : firstT (cutAs c D N) nw k = firstT D nw k := rfl
  rw [e]
  cases firstT D nw k with
  | none => rfl
  | some i =>
    simp only
    rw [cuA_up (by omega) (by omega), cuA_up (by omega) (by omega)]
    rfl
theorem take_cb : takeT (cutAs c D N) nb nw = ((takeT D nb nw).1, cutAs c (takeT D nb nw).2 N) := by
  unfold takeT
  rw [fresh_cb, cuA_up (by omega) (by omega), takeAt_cb, takeAt_cb]
  rw [show cutAs c D N 15 4 = D 15 4 from rfl, show cutAs c D N 1 (xi (D 15 4)) = D 1 (xi (D 15 4)) from rfl]
  split
  · split <;> rfl
  · rfl
theorem surv_cb : surveyT (cutAs c D N) nb nw = cutAs c (surveyT D nb nw) N := by
  unfold surveyT
  rw [show cutAs c D N 14 11 = D 14 11 from rfl]
  by_cases e : D 14 11 = 0
  · rw [if_pos e, if_pos e]
    funext j k
    unfold survS
    rw [live_cb, jour_cb]
    by_cases e1 : j = 14 ∧ k = 15
    · rw [if_pos e1, cuA_r (by omega) (by omega), if_pos e1]
    rw [if_neg e1]
    by_cases e2 : j = 14 ∧ k = 14
    · rw [if_pos e2, cuA_r (by omega) (by omega), if_neg e1, if_pos e2]
    rw [if_neg e2]
    by_cases e3 : j = 13 ∧ k < nb * nw
    · rw [if_pos e3, cuA_r (by omega) (by omega), if_neg e1, if_neg e2, if_pos e3]
    rw [if_neg e3]
    by_cases e4 : j = 10 ∧ k < 6
    · rw [if_pos e4, cuA_r (by omega) (by omega), if_neg e1, if_neg e2, if_neg e3, if_pos e4]
    rw [if_neg e4]
    by_cases e5 : j = 14 ∧ k = 11
    · rw [if_pos e5, cuA_r (by omega) (by omega), if_neg e1, if_neg e2, if_neg e3, if_neg e4, if_pos e5]
    rw [if_neg e5]
    unfold cutAs
    by_cases e6 : j = 14 ∧ k = 2
    · rw [if_pos e6, if_pos e6]
    rw [if_neg e6, if_neg e6]
    by_cases e7 : 16 ≤ j ∧ j ≤ 24
    · rw [if_pos e7, if_pos e7]
    rw [if_neg e7, if_neg e7]
    simp only [if_neg e1, if_neg e2, if_neg e3, if_neg e4, if_neg e5]
  · rw [if_neg e, if_neg e]
theorem pickF_cb : ∀ n, pickF (cutAs c D N) n = pickF D n
  | 0 => rfl
  | n + 1 => by
    have e := pickF_cb n
    unfold pickF
    rw [e]
    rfl
theorem pickB_cb : pickB (cutAs c D N) nb = pickB D nb := by
  unfold pickB
  rw [pickF_cb]
  rfl
theorem pick_cb : pickT (cutAs c D N) nb nw = ((pickT D nb nw).1, cutAs c (pickT D nb nw).2 N) := by
  unfold pickT
  rw [show cutAs c D N 14 1 = D 14 1 from rfl, surv_cb, pickB_cb]
  split <;> rfl
theorem val_cb {t : Nat} : valS a x (t, cutAs c E N) = ((valS a x (t, E)).1, cutAs c (valS a x (t, E)).2 N) := by
  have r1 : ∀ k, cutAs c E N (25 + 2 * a) k = E (25 + 2 * a) k := fun k => cuA_r (by omega) (by omega)
  have r2 : ∀ k, cutAs c E N (26 + 2 * a) k = E (26 + 2 * a) k := fun k => cuA_r (by omega) (by omega)
  unfold valS
  simp only [r1, r2]
  split
  · simp only
    rw [cuA_up (by omega) (by omega)]
  · split
    · simp only
      rw [cuA_up (by omega) (by omega)]
    · split
      · simp only
        rw [cuA_up (by omega) (by omega)]
      · rfl
theorem valF_cb : ∀ i, valF a R (cutAs c E N) i = ((valF a R E i).1, cutAs c (valF a R E i).2 N)
  | 0 => rfl
  | i + 1 => by
    rw [valF_s, valF_s, valF_cb i, val_cb]
theorem wants_cb : wantsT C R a (cutAs c D N) = ((wantsT C R a D).1, cutAs c (wantsT C R a D).2 N) := by
  unfold wantsT
  split
  · rfl
  · simp only
    rw [surv_cb]
    have ef : ∀ x y z w, factT a (cutAs c (surveyT D (C 0 0) (C 0 1)) N) x y z w = cutAs c (factT a (surveyT D (C 0 0) (C 0 1)) x y z w) N := by
      intro x y z w
      unfold factT
      rw [cuA_up (by omega) (by omega), cuA_up (by omega) (by omega), cuA_up (by omega) (by omega), cuA_up (by omega) (by omega)]
    rw [ef]
    unfold valT
    rw [valF_cb]
    simp only
    have e25 : ∀ V : xT, cutAs c V N (25 + 2 * a) 0 = V (25 + 2 * a) 0 := fun V => cuA_r (by omega) (by omega)
    simp only [e25]
    rfl
theorem filR_cb : ∀ (k cn z : Nat) (E : xT), filR s k cn z (cutAs c E N) = ((filR s k cn z E).1, (filR s k cn z E).2.1, cutAs c (filR s k cn z E).2.2 N)
  | 0, cn, z, E => rfl
  | k + 1, cn, z, E => by
    unfold filR
    rw [kept_cb]
    split
    · rfl
    · split
      · rw [cuA_up (by omega) (by omega), cuA_up (by omega) (by omega), show cutAs c E N 9 z = E 9 z from rfl, filR_cb k]
      · rw [filR_cb k]
theorem fillPart_cb : fillPartT (cutAs c E N) s p q n = ((fillPartT E s p q n).1, cutAs c (fillPartT E s p q n).2 N) := by
  unfold fillPartT
  simp only
  rw [filR_cb]
  simp only
  rw [fill_cb]
  rfl
theorem copy_cb : copyT (cutAs c E N) s t = cutAs c (copyT E s t) N := by
  funext j k
  unfold copyT
  rw [fill_cb]
  by_cases e : (j = 7 ∨ j = 8) ∧ t * 4 ≤ k ∧ k < t * 4 + 4
  · rw [if_pos e, cuA_r (by omega) (by omega), cuA_r (by omega) (by omega), if_pos e]
  · rw [if_neg e]
    unfold cutAs
    by_cases e1 : j = 14 ∧ k = 2
    · rw [if_pos e1, if_pos e1]
    · rw [if_neg e1, if_neg e1]
      by_cases e2 : 16 ≤ j ∧ j ≤ 24
      · rw [if_pos e2, if_pos e2]
      · rw [if_neg e2, if_neg e2]
        simp only [if_neg e]
        rfl
theorem unmap_cb : unmapT (cutAs c E N) f = cutAs c (unmapT E f) N := by
  funext j k
  unfold unmapT
  by_cases e : j = 9 ∧ f * 4 ≤ k ∧ k < f * 4 + 4
  · rw [if_pos e, cuA_r (by omega) (by omega), if_pos e]
  · rw [if_neg e]
    by_cases e1 : j = 14 ∧ k = 11
    · rw [if_pos e1, cuA_r (by omega) (by omega), if_neg e, if_pos e1]
    · rw [if_neg e1]
      unfold cutAs
      by_cases e2 : j = 14 ∧ k = 2
      · rw [if_pos e2, if_pos e2]
      · rw [if_neg e2, if_neg e2]
        by_cases e3 : 16 ≤ j ∧ j ≤ 24
        · rw [if_pos e3, if_pos e3]
        · rw [if_neg e3, if_neg e3]
          simp only [if_neg e, if_neg e1]
theorem clr_cb : clrT (cutAs c E N) n m = cutAs c (clrT E n m) N := by
  funext j k
  unfold clrT
  by_cases e : (2 ≤ j ∧ j ≤ 6) ∧ n ≤ k ∧ k < n + m
  · rw [if_pos e, cuA_r (by omega) (by omega), if_pos e]
  · rw [if_neg e]
    unfold cutAs
    by_cases e2 : j = 14 ∧ k = 2
    · rw [if_pos e2, if_pos e2]
    · rw [if_neg e2, if_neg e2]
      by_cases e3 : 16 ≤ j ∧ j ≤ 24
      · rw [if_pos e3, if_pos e3]
      · rw [if_neg e3, if_neg e3]
        simp only [if_neg e]
end
