section
variable {M : xM} {D E X : xT} {C : xC} {R : Nat → Int32} {fu n m o p q a c k l s K P : Nat} {W : Nat → Nat} {V : Nat → Nat → Int32} {kk : Nat → Int32 → Int32 → xM → Option (Int32 × xM)}
theorem t_ends26 (h : Lay M) (hB : CB C) (hn : n ≤ 24) (hE : InE (startT C D) 0 0) (hr : Ran C R a n W V D X M) (hc : 1 ≤ c) (hcP : c ≤ wkP C R a W V D n) : ∀ m o l, o + m = c → m < l → 1 ≤ o → (∀ t, t < o - 1 → xi (wkN C R a W V D n 22 t) ≠ xi (wkN C R a W V D n 22 (c - 1))) →
    L_X12_ends_26 fu kk l 0 (i3 k) (i3 c) 1 (i3 o) (mmb X M) = kk 0 (i3 (k + if firstB (fun p => xi (wkN C R a W V D n 22 p)) (c - 1) then 1 else 0)) (i3 (c + 1)) (mmb X M) := by
  obtain ⟨hPl, K, hEn⟩ := wkP_le (R := R) (a := a) (W := W) (V := V) hB hn hE
  intro m
  induction m with
  | zero =>
    intro o l ho hl ho1 hf
    obtain ⟨l, rfl⟩ : ∃ k, l = k + 1 := ⟨l - 1, by omega⟩
    have e : o = c := by omega
    subst e
    conv => lhs; unfold L_X12_ends_26
    rw [if_pos (Int32.le_refl _)]
    unfold J_X12_ends_69
    rw [if_neg (by decide), first_iff.mpr hf, if_pos rfl, i3_add1, i3_add1]
  | succ m ih =>
    intro o l ho hl ho1 hf
    obtain ⟨l, rfl⟩ : ∃ k, l = k + 1 := ⟨l - 1, by omega⟩
    conv => lhs; unfold L_X12_ends_26
    have e3 : ∀ j, (3 : Int32) * i3 j = i3 (3 * j) := fun j => by rw [show (3 : Int32) = i3 3 from rfl, i3_mul]
    rw [if_neg (fun q => by have := (i3_le (by omega) (by omega)).mp q; omega), if_neg (by decide), gR_mmb, l12_0_23 h, e3, e3, t_sameEnds h hB hn hE hr hc hcP ho1 (by omega)]
    simp only [Option.bind_some]
    by_cases w : xi (wkN C R a W V D n 22 (c - 1)) = xi (wkN C R a W V D n 22 (o - 1))
    · rw [decide_eq_true w, if_pos (by decide)]
      have hnf : firstB (fun p => xi (wkN C R a W V D n 22 p)) (c - 1) = false := by
        cases e : firstB (fun p => xi (wkN C R a W V D n 22 p)) (c - 1) with
        | false => rfl
        | true => exact absurd w.symm (first_iff.mp e (o - 1) (by omega))
      obtain ⟨l, rfl⟩ : ∃ k, l = k + 1 := ⟨l - 1, by omega⟩
      conv => lhs; unfold L_X12_ends_26
      unfold J_X12_ends_69
      rw [hnf, if_neg (show ¬ false = true by decide), i3_add1]
      split
      · rw [if_pos rfl, i3_add1]
        show kk 0 (i3 k + 0) (i3 (c + 1)) (mmb X M) = kk 0 (i3 (k + 0)) (i3 (c + 1)) (mmb X M)
        rw [Int32.add_zero]
        rfl
      · rw [if_pos rfl, if_pos rfl, i3_add1]
        show kk 0 (i3 k + 0) (i3 (c + 1)) (mmb X M) = kk 0 (i3 (k + 0)) (i3 (c + 1)) (mmb X M)
        rw [Int32.add_zero]
        rfl
    · rw [decide_eq_false w, if_neg (fun q => q rfl), i3_add1]
      refine ih (o + 1) l (by omega) (by omega) (by omega) (fun t ht => ?_)
      rcases Nat.lt_or_ge t (o - 1) with g | g
      · exact hf t g
      · have : t = o - 1 := by omega
        rw [this]; exact fun q => w q.symm
end
