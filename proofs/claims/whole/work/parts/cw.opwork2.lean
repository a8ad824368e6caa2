/-! ===== a WORK told: the reference, all ===== -/
section
variable {M M' M1 N : xM} {X Y Y' Y1 : xT} {f : Nat → Nat} {fu l t T n i j k d s x a b w F e m g n' w' B : Nat} {c ls : List Nat} {q : Nat × Nat} {u v y0 : Int32} {nm : Nat → List Nat} {D : Nat → Nat → Nat} {C : xC} {R : Nat → Int32} {W W' : Nat → Nat} {V V' : Nat → Nat → Int32} {o : Option Nat}
/-- a WORK as it was read -/
def wrA (f : Nat → Nat) (t F : Nat) (nm : Nat → List Nat) : Nat × Nat × Nat × (Nat → Nat → Nat) := wrP f t F nm 25 0 (fun _ _ => 0) 0
theorem t_work (hf : 1100 < fu) (h : Lay N) (hW : PWords N) (h2 : X 0 2 = i3 t) (ht : t ≤ 1000) (hx : ∀ i, i < t → X 87 i = i3 (f i) ∧ (f i = 10 ∨ 32 ≤ f i ∧ f i ≤ 126)) (hC : MCfg C X) (hF : C 0 3 = F) (hN : NmX 0 F nm N) :
    ∃ Y' N', LnF N N' ∧ Y' 0 2 = 0 ∧ ((wrA f t F nm).1 ≠ 0 → F_X12_work fu 0 (mmb X N) = some (i3 (wrA f t F nm).1, mmb Y' N') ∧ ∀ j k, j ≠ 88 → j ≠ 89 → (j ≠ 0 ∨ k ≠ 0 ∧ k ≠ 2 ∧ k ≠ 3 ∧ k ≠ 7 ∧ k ≠ 8) → (j ≠ 92 ∨ k < 100) → Y' j k = X j k) ∧
      ((wrA f t F nm).1 = 0 → F_X12_work fu 0 (mmb X N) = some (0, mmb Y' N') ∧ (∀ j k, j ≠ 88 → j ≠ 89 → (j ≠ 0 ∨ k ≠ 0 ∧ k ≠ 2 ∧ k ≠ 3 ∧ k ≠ 7 ∧ k ≠ 8 ∧ k ≠ 26) → j ≠ 92 → Y' j k = X j k) ∧ Y' 0 26 = 0 ∧ (wrA f t F nm).2.2.1 ≤ 24 ∧ Y' 92 0 = i3 (wrA f t F nm).2.2.1 ∧ ∀ j, j < (wrA f t F nm).2.2.1 → ∀ e, e < 4 → Y' 92 (1 + 4 * j + e) = i3 ((wrA f t F nm).2.2.2 j e)) := by
  obtain ⟨Y1, N1, T, r1, r2, r3, r4, r5, r6⟩ := t_cutAll (f := f) (X := up X 0 0 0) hf h hW ((up_ne (by omega)).trans h2) ht (fun i hi => by rw [up_ne (by omega)]; exact hx i hi)
  have hC1 : MCfg C Y1 := by
    have e : ∀ k, Y1 90 k = X 90 k := fun k => (r6 90 k (by omega) (by omega) (by omega)).trans (up_ne (by omega))
    exact MCfg_90 hC e
  have hN1 : NmX 0 F nm N1 := ⟨hN.1, hN.2.1, fun k hk => ⟨(hN.2.2.1 k hk).1, (hN.2.2.1 k hk).2.1, (r2.2.2.2.2 _ _ _ (by omega)).trans (hN.2.2.1 k hk).2.2⟩, hN.2.2.2⟩
  obtain ⟨n', Y2, u1, u2, u3, u4⟩ := t_wloop (fu := fu) r4 ht hF hN1 hf 25 0 fu 0 (fun _ _ => 0) Y1 (by omega) (by omega) (by omega) r3 (Nat.zero_le _) hC1 (fun j hj => absurd hj (Nat.not_lt_zero _))
  have hrun : F_X12_work fu 0 (mmb X N) = J_X12_work_98 fu 0 (i3 n') (mmb Y2 N1) := by
    unfold F_X12_work
    simp only [sI_th]
    rw [r1]
    simp only [Option.bind_some]
    exact u1
  have hoF : ∀ j k, j ≠ 88 → j ≠ 89 → (j ≠ 0 ∨ k ≠ 0 ∧ k ≠ 2 ∧ k ≠ 3 ∧ k ≠ 7 ∧ k ≠ 8) → (j ≠ 92 ∨ k < 100) → Y2 j k = X j k := fun j k h1 h2 h3 h4 => by
    rw [u3 j k (by omega) h4, r6 j k h1 h2 (by omega), up_ne (by omega)]
  have h022 : Y2 0 2 = 0 := (u3 0 2 (by omega) (by omega)).trans r5
  rw [hrun]
  unfold wrA
  generalize wrP f t F nm 25 0 (fun _ _ => 0) 0 = p at u2 u4 ⊢
  by_cases p0 : p.1 = 0
  · obtain ⟨z1, z2, z3⟩ := u4 p0
    have u2' : LnX f t T (0, p.2.1) Y2 N1 := by
      have e : (p.1, p.2.1) = (0, p.2.1) := by rw [p0]
      rw [← e]; exact u2
    refine ⟨_, N1, r2, ?_, fun z => absurd p0 z, fun _ => ⟨t_w98 u2' z2 (by omega), fun j k h1 h2 h3 h4 => ?_, up_eq, by omega, ?_, fun j hj e he => ?_⟩⟩
    · rw [up_ne (by omega)]
      unfold cp4
      rw [if_neg (by omega), up_ne (by omega)]
      exact h022
    · rw [up_ne (by omega)]
      unfold cp4
      rw [if_neg (by omega), up_ne (by omega)]
      exact hoF j k h1 h2 (by omega) (by omega)
    · rw [up_ne (by omega)]
      unfold cp4
      rw [if_neg (by omega), up_eq, z1]
    · rw [up_ne (by omega)]
      unfold cp4
      rw [if_pos (by omega), up_ne (by omega), show 99 + (1 + 4 * j + e) = 100 + 4 * j + e by omega]
      exact z3 j (by omega) e he
  · exact ⟨Y2, N1, r2, h022, fun _ => ⟨t_w98F u2 p0, hoF⟩, fun z => absurd z p0⟩
end
