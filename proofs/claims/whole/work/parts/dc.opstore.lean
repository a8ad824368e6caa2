/-! ===== a PLAN told: the reference, all ===== -/
def plA (f : Nat → Nat) (t : Nat) : Nat × Nat × plS := plP f t 1001 plS0 0
section
variable {M M' M1 N N' N1 : xM} {X Y Y' Y1 Y2 : xT} {f : Nat → Nat} {fu l t T n i j k d s x a b w F e m g lo hi p B : Nat} {c ls : List Nat} {q : Nat × Nat} {u v y0 : Int32} {nm : Nat → List Nat} {S S' : plS} {y : Int64} {C : xC} {R : Nat → Int32} {D : xT} {W : Nat → Nat} {V : Nat → Nat → Int32}
theorem plP_ok (hT0 : tS f t T = t) (hT : T ≤ 1000) : ∀ m S i, PlOk S → i ≤ T → (plP f t m S i).1 = 0 → PlOk (plP f t m S i).2.2 := by
  intro m
  induction m with
  | zero => intro S i h _ _; exact h
  | succ m ih =>
    intro S i h hi h0
    unfold plP at h0 ⊢
    by_cases c : tkT f t (tS f t i) = 0
    · rw [if_pos c]; exact h
    · rw [if_neg c] at h0 ⊢
      have hlt := tok_lt hT0 hi c
      by_cases c2 : (plLn f t S i).1 = 0
      · rw [if_pos c2] at h0 ⊢
        obtain ⟨o1, o2⟩ := plLn_ok h hT0 hT hlt c2
        by_cases c3 : (tkSg f t (plLn f t S i).2.1 59).1 = 0
        · rw [if_pos c3] at h0 ⊢
          exact ih _ _ o1 (tkSg_T hT0 o2) h0
        · rw [if_neg c3] at h0; exact absurd h0 c3
      · rw [if_neg c2] at h0; exact absurd h0 c2
theorem t_store (hf : 1100 < fu) (h : Lay N) (hW : PWords N) (h2 : X 0 2 = i3 t) (ht : t ≤ 1000) (hx : ∀ i, i < t → X 87 i = i3 (f i) ∧ (f i = 10 ∨ 32 ≤ f i ∧ f i ≤ 126)) :
    ∃ T Y2 N1 N2, tS f t T = t ∧ T ≤ t ∧ LnF N N1 ∧ PnN N1 N2 ∧ Y2 0 2 = 0 ∧ (∀ j k, j ≠ 88 → j ≠ 89 → (j ≠ 0 ∨ k ≠ 0 ∧ k ≠ 2 ∧ k ≠ 3 ∧ k ≠ 7 ∧ k ≠ 8 ∧ k ≠ 12) → (j ≠ 90 ∨ k < 20) → (j ≠ 91 ∨ k < 1100) → Y2 j k = X j k) ∧
      ((plA f t).1 ≠ 0 → F_X12_store fu 0 (mmb X N) = some (i3 (plA f t).1, mmb Y2 N2)) ∧
      ((plA f t).1 = 0 → PlX (plA f t).2.2 Y2 N2 ∧ PlOk (plA f t).2.2 ∧ ∃ c, Y2 0 12 = i3 c ∧ c ≤ 1001 ∧ ((plA f t).2.2.2.2.1 / 8 % 2 = 1 → c = (plA f t).2.2.2.2.2.length + 1) ∧ F_X12_store fu 0 (mmb X N) = some (0, mmb (bgX (c2X (c1X Y2 20) c)) (nmN N2 5))) := by
  obtain ⟨Y1, N1, T, r1, r2, r3, r4, r5, r6⟩ := t_cutAll (f := f) (X := up X 0 0 0) hf h hW ((up_ne (by omega)).trans h2) ht (fun i hi => by rw [up_ne (by omega)]; exact hx i hi)
  have hTt : T ≤ t := r3.1.2.2.2.2.1
  have hs : LnX f t T (0, 0) (saX (up Y1 0 12 0)) N1 := LnX_y r3 (fun j k q => by
    unfold saX
    rw [if_neg (by omega), up_ne (by omega)])
  have hP0 : PlX plS0 (saX (up Y1 0 12 0)) N1 := PlX_0 up_eq
  have hO0 : PlOk plS0 := ⟨Nat.zero_le _, Nat.zero_le _, Nat.zero_le _, Nat.zero_le _, rfl, Nat.zero_le _, by decide, fun k hk => absurd hk (Nat.not_lt_zero _), fun k j hk => absurd hk (Nat.not_lt_zero _), fun _ => rfl, fun z => absurd z (by decide)⟩
  obtain ⟨Y2, N2, u1, u2, u3, u4, u5⟩ := t_sloop (fu := fu) r4 ht (show T ≤ 1000 by omega) hf 1001 0 plS0 fu (saX (up Y1 0 12 0)) N1 (by omega) (Nat.zero_le _) (by omega) hs hP0 hO0
  have hrun : F_X12_store fu 0 (mmb X N) = J_X12_store_52 fu 0 (mmb Y2 N2) := by
    unfold F_X12_store
    simp only [sI_th]
    rw [r1]
    simp only [Option.bind_some]
    rw [p_0, t_always r2.1 (by omega)]
    simp only [Option.bind_some]
    exact u1
  have hfr : ∀ j k, j ≠ 88 → j ≠ 89 → (j ≠ 0 ∨ k ≠ 0 ∧ k ≠ 2 ∧ k ≠ 3 ∧ k ≠ 7 ∧ k ≠ 8 ∧ k ≠ 12) → (j ≠ 90 ∨ k < 20) → (j ≠ 91 ∨ k < 1100) → Y2 j k = X j k := fun j k h1 h2 h3 h4 h5 => by
    rw [u3 j k (by omega) h4 h5]
    unfold saX
    rw [if_neg (by omega), up_ne (by omega), r6 j k h1 h2 (by omega), up_ne (by omega)]
  have h02 : Y2 0 2 = 0 := by
    rw [u3 0 2 (by omega) (by omega) (by omega)]
    unfold saX
    rw [if_neg (by omega), up_ne (by omega)]
    exact r5
  refine ⟨T, Y2, N1, N2, r4, hTt, r2, u4, h02, hfr, fun z => ?_, fun z => ?_⟩
  · rw [hrun]
    exact t_st52F u2 z
  · have z' : (plP f t 1001 plS0 0).1 = 0 := z
    have hX := u5 z'
    have hOk := plP_ok (f := f) (t := t) r4 (show T ≤ 1000 by omega) 1001 plS0 0 hO0 (Nat.zero_le _) z'
    have u2' : LnX f t T (0, (plP f t 1001 plS0 0).2.1) Y2 N2 := by
      have e : ((plP f t 1001 plS0 0).1, (plP f t 1001 plS0 0).2.1) = (0, (plP f t 1001 plS0 0).2.1) := by rw [z']
      rw [← e]; exact u2
    rw [hrun]
    unfold plA
    refine ⟨hX, hOk, ?_⟩
    obtain ⟨h1, h2, h3, h4, h5⟩ := hX
    by_cases c : (plP f t 1001 plS0 0).2.2.2.2.1 / 8 % 2 = 0
    · obtain ⟨g1, g2⟩ := h4 c
      exact ⟨0, g2, by omega, fun z => by omega, t_st52 u2' hf g2 (by omega)⟩
    · obtain ⟨g1, g2, g3, g4⟩ := h5 (by omega)
      have hl := hOk.2.2.2.2.2.1
      exact ⟨_, g2, by omega, fun _ => rfl, t_st52 u2' hf g2 (by omega)⟩
end
