/-! ===== a WORK, read: the reference ===== -/
/-- the table of the work that is read -/
def MkR (n : Nat) (D : Nat → Nat → Nat) (Y : xT) : Prop := ∀ j, j < n → ∀ e, e < 4 → Y 92 (100 + 4 * j + e) = i3 (D j e)
def MkF (Y Y' : xT) : Prop := ∀ j k, (j ≠ 0 ∨ k ≠ 7 ∧ k ≠ 8) → (j ≠ 92 ∨ k < 100) → Y' j k = Y j k
/-- the reference's names -/
def NmX (b F : Nat) (nm : Nat → List Nat) (N : xM) : Prop := F ≤ 5 ∧ b ≤ 5 ∧ (∀ k, k < F → (nm k).length ≤ 8 ∧ (∀ x, x ∈ nm k → 1 ≤ x ∧ x ≤ 26) ∧ gL N 21 4 (b + k) = Int64.ofNat (enc 37 (nm k))) ∧ ∀ k j, k < F → j < F → nm k = nm j → k = j
section
variable {M M' M1 N : xM} {X Y Y' Y1 : xT} {f : Nat → Nat} {fu l t T n i j k d s x a b w F e m g : Nat} {c ls : List Nat} {q : Nat × Nat} {u v y0 : Int32} {nm : Nat → List Nat} {D : Nat → Nat → Nat}
theorem MkF_rf : MkF Y Y := fun _ _ _ _ => rfl
theorem MkF_tr (h : MkF Y Y1) (h2 : MkF Y1 Y') : MkF Y Y' := fun j k a b => (h2 j k a b).trans (h j k a b)
theorem MkF_xn (h : XnF Y Y') : MkF Y Y' := fun j k a _ => h j k a
theorem MkF_92 (h : 100 ≤ k) : MkF Y (up Y 92 k v) := fun j i a b => up_ne (by omega)
theorem LnX_92 (h : LnX f t T q Y N) : LnX f t T q (up Y 92 k v) N := ⟨AtX_cg h.1 (fun k => up_ne (by omega)) (fun k => up_ne (by omega)) ((up_ne (by omega)).trans h.1.2.2.2.2.2.2.2.2.2.1) h.1.2.2.2.2.2.2.2.2.2.2.1 ((up_ne (by omega)).trans h.1.2.2.2.2.2.2.2.2.2.2.2), h.2⟩
theorem gd92 {α : Type} {r0 : Option α} (h : Lay N) (hk : k < 200) : gd (xin (i3 k) (gN (mmb Y N) 20 92)) r0 = r0 := by
  rw [gN_mmb, n20_92 h, xin_i3 hk (by omega), gd_t]
theorem gr14 (h : Lay N) : gR (mmb Y N) 12 0 14 = some 92 := l12_0_14 h
/-- the numbers of a write -/
theorem t_nums (h : LnX f t T (0, i) Y N) (hi : i ≤ T) (hT0 : tS f t T = t) (ht : t ≤ 1000) (hp : 100 ≤ g) (hg : g + 3 < 200) :
    ∃ Y', ((F_X12_takeNumber fu 0 0 3 (mmb Y N)).bind fun p_4 => (some 92).bind fun a_5 => gd (xin (i3 g + 2) (gN p_4.2 20 a_5)) ((F_X12_takeNumber fu 0 0 255 (sI p_4.2 20 a_5 (xi (i3 g + 2)) p_4.1)).bind fun p_7 => (gR (sI p_4.2 20 a_5 (xi (i3 g + 2)) p_4.1) 12 0 14).bind fun a_8 => gd (xin (i3 g + 3) (gN p_7.2 20 a_8)) (some (sI p_7.2 20 a_8 (xi (i3 g + 3)) p_7.1)))) = some (mmb Y' N) ∧
      LnX f t T ((wlNum f t i).1, (wlNum f t i).2.1) Y' N ∧ MkF Y Y' ∧ (∀ k, k ≠ g + 2 → k ≠ g + 3 → Y' 92 k = Y 92 k) ∧ ((wlNum f t i).1 = 0 → Y' 92 (g + 2) = i3 (wlNum f t i).2.2.1 ∧ Y' 92 (g + 3) = i3 (wlNum f t i).2.2.2) := by
  have hL := h.1.1
  have e2 : i3 g + 2 = i3 (g + 2) := i3_add g 2
  have e3 : i3 g + 3 = i3 (g + 3) := i3_add g 3
  obtain ⟨Y1, r1, r2, r3⟩ := t_takeNu (fu := fu) (lo := 0) (hi' := 3) h hi hT0 ht (by omega) (by omega)
  unfold wlNum
  rw [show F_X12_takeNumber fu 0 0 3 (mmb Y N) = _ from r1]
  simp only [Option.bind_some]
  rw [e2, e3, gd92 hL (by omega), xi_i3 (by omega), xi_i3 (by omega), p_92]
  have hii : (tkNu f t i 0 3).2.1 ≤ T := r2.1.2.2.2.2.2.2.2.2.2.2.1
  generalize tkNu f t i 0 3 = p at r2 hii ⊢
  by_cases p0 : p.1 = 0
  · rw [if_pos p0]
    have r2' : LnX f t T (0, p.2.1) (up Y1 92 (g + 2) (i3 p.2.2)) N := by
      have e : (p.1, p.2.1) = (0, p.2.1) := by rw [p0]
      rw [← e]; exact LnX_92 r2
    obtain ⟨Y2, s1, s2, s3⟩ := t_takeNu (fu := fu) (lo := 0) (hi' := 255) r2' hii hT0 ht (by omega) (by omega)
    rw [show F_X12_takeNumber fu 0 0 255 (mmb (up Y1 92 (g + 2) (i3 p.2.2)) N) = _ from s1]
    simp only [Option.bind_some]
    rw [gr14 hL]
    simp only [Option.bind_some]
    rw [gd92 hL (by omega), p_92]
    have ho : ∀ k, k ≠ g + 2 → k ≠ g + 3 → up Y2 92 (g + 3) (i3 (tkNu f t p.2.1 0 255).2.2) 92 k = Y 92 k := fun k h1 h2 => by
      rw [up_ne (by omega), s3 92 k (by omega), up_ne (by omega)]; exact r3 92 k (by omega)
    have hF : MkF Y (up Y2 92 (g + 3) (i3 (tkNu f t p.2.1 0 255).2.2)) := MkF_tr (MkF_xn r3) (MkF_tr (MkF_92 (by omega)) (MkF_tr (MkF_xn s3) (MkF_92 (by omega))))
    by_cases c0 : (tkNu f t p.2.1 0 255).1 = 0
    · rw [if_pos c0]
      have s2' : LnX f t T (0, (tkNu f t p.2.1 0 255).2.1) Y2 N := by
        have e : ((tkNu f t p.2.1 0 255).1, (tkNu f t p.2.1 0 255).2.1) = (0, (tkNu f t p.2.1 0 255).2.1) := by rw [c0]
        rw [← e]; exact s2
      exact ⟨_, rfl, LnX_92 s2', hF, ho, fun _ => ⟨by rw [up_ne (by omega), s3 92 _ (by omega), up_eq], up_eq⟩⟩
    · rw [if_neg c0]
      exact ⟨_, rfl, LnX_92 s2, hF, ho, fun z => absurd z c0⟩
  · rw [if_neg p0, t_takeNuF (LnX_92 r2) p0]
    simp only [Option.bind_some]
    rw [gr14 hL]
    simp only [Option.bind_some]
    rw [gd92 hL (by omega), p_92]
    exact ⟨_, rfl, LnX_92 (LnX_92 r2), MkF_tr (MkF_xn r3) (MkF_tr (MkF_92 (by omega)) (MkF_92 (by omega))), fun k h1 h2 => by rw [up_ne (by omega), up_ne (by omega)]; exact r3 92 k (by omega), fun z => absurd z p0⟩
end
