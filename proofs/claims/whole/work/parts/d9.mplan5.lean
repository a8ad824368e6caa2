/-! ===== a PLAN's line, read: the reference, together ===== -/
section
variable {M M' M1 N N' N1 : xM} {X Y Y' Y1 : xT} {f : Nat → Nat} {fu l t T n i j k d s x a b w F e m g lo hi hi' p : Nat} {c ls : List Nat} {q : Nat × Nat} {u v y0 : Int32} {nm : Nat → List Nat} {S S' : plS} {y : Int64} {C : xC}
theorem t_pline (h : LnX f t T (0, i) Y N) (hP : PlX S Y N) (hO : PlOk S) (hi : i < T) (hT0 : tS f t T = t) (ht : t ≤ 1000) (hT : T ≤ 1000) (hf : 1100 < fu) :
    ∃ Y' N', F_X12_readLine fu 0 (mmb Y N) = some (mmb Y' N') ∧ LnX f t T ((plLn f t S i).1, (plLn f t S i).2.1) Y' N' ∧ PxF Y Y' ∧ PnN N N' ∧ ((plLn f t S i).1 = 0 → PlX (plLn f t S i).2.2 Y' N') := by
  have hL := h.1.1
  have hm := hO.2.2.2.2.2.2.1
  have ew : F_X12_wordHere fu 0 0 3 (mmb Y N) = some (wHr (tkK f t (tS f t i)) 0 3, mmb Y N) := t_wordHere (a := 0) (n := 3) h.1 rfl (by omega) hf
  have ei3 : F_X12_isWord fu 0 3 (mmb Y N) = some (bz (decide (tkK f t (tS f t i) = some 3)), mmb Y N) := t_isWord (k := 3) h.1 rfl (by omega)
  have ei5 : F_X12_isWord fu 0 5 (mmb Y N) = some (bz (decide (tkK f t (tS f t i) = some 5)), mmb Y N) := t_isWord (k := 5) h.1 rfl (by omega)
  have ne1 : ¬ (1 + 16 * tS f t i = 0) := by omega
  have ne3 : ¬ (3 + 16 * tS f t i = 0) := by omega
  have bad1 : ∃ Y', ((F_X12_wrong fu 0 1 (mmb Y N)).bind fun p_9 => some p_9) = some (mmb Y' N) ∧ LnX f t T (1 + 16 * tS f t i, i) Y' N ∧ XnF Y Y' := by
    obtain ⟨Y', r1, r2, r3⟩ := LnX_fail (fu := fu) (k := 1) h (by omega) (by omega) ht
    refine ⟨Y', ?_, r2, r3⟩
    rw [show F_X12_wrong fu 0 1 (mmb Y N) = _ from r1]
    rfl
  unfold F_X12_readLine plLn
  rw [ew]
  simp only [Option.bind_some]
  rw [ei3]
  simp only [Option.bind_some]
  cases e : tkK f t (tS f t i) with
  | none =>
    rw [if_pos (show bz (decide ((none : Option Nat) = some 3)) = 0 by rw [decide_eq_false (by intro z; cases z)]; rfl), if_pos (show wHr none 0 3 < 0 by decide), ei5, e]
    simp only [Option.bind_some]
    rw [if_neg (show ¬ ¬ bz (decide ((none : Option Nat) = some 5)) = 0 from fun z => z (by rw [decide_eq_false (by intro z; cases z)]; rfl))]
    obtain ⟨Y', b1, b2, b3⟩ := bad1
    exact ⟨Y', N, b1, b2, PxF_xn b3, PnN_rf, fun z => absurd z ne1⟩
  | some k =>
    have hk := (tkK_lt e).1
    have hs : ∀ j, (some k = some j) = (k = j) := fun j => propext ⟨fun z => by injection z, fun z => by rw [z]⟩
    by_cases c3 : k = 3
    · subst c3
      rw [if_neg (show ¬ bz (decide (some 3 = some 3)) = 0 by rw [decide_eq_true rfl]; decide)]
      simp only [if_true]
      obtain ⟨Y', N', r1, r2, r3, r4, r5⟩ := t_file (fu := fu) h hP hO hi hT0 ht hf
      refine ⟨Y', N', ?_, r2, r3, r4, r5⟩
      rw [r1]
      rfl
    · rw [if_pos (show bz (decide (some k = some 3)) = 0 by rw [decide_eq_false (by rw [hs]; exact c3)]; rfl)]
      simp only [if_neg c3]
      by_cases k3 : k < 3
      · have ewk : wHr (some k) 0 3 = i3 k := if_pos (by omega)
        obtain ⟨o1, o2⟩ := t_isOnce (fu := fu) (k := k) h hi ht (by omega) hm hP.2.1
        rw [ewk, if_neg (show ¬ i3 k < 0 from fun z => (i3_nl (a := k) (by omega)).mp z)]
        simp only [if_pos k3]
        by_cases h0 : S.2.2.1 / 2 ^ k % 2 = 0
        · rw [o1 h0]
          simp only [Option.bind_some]
          rw [if_neg (show ¬ (1 : Int32) = 0 by decide), gr10 hL]
          simp only [if_pos h0]
          rcases (show k = 0 ∨ k = 1 ∨ k = 2 by omega) with rfl | rfl | rfl
          · obtain ⟨Y', r1, r2, r3, r4⟩ := t_plnum (fu := fu) (k := 0) (lo := 1) (hi' := 6) (v := i3 0) h hP hO hi hT0 ht (by omega) h0 (by omega) (by omega) rfl rfl
            rw [if_pos (show ¬ i3 0 = 2 by decide)]
            exact ⟨Y', N, r1, r2, r3, PnN_rf, r4⟩
          · obtain ⟨Y', r1, r2, r3, r4⟩ := t_plnum (fu := fu) (k := 1) (lo := 1) (hi' := 6) (v := i3 1) h hP hO hi hT0 ht (by omega) h0 (by omega) (by omega) rfl rfl
            rw [if_pos (show ¬ i3 1 = 2 by decide)]
            exact ⟨Y', N, r1, r2, r3, PnN_rf, r4⟩
          · obtain ⟨Y', r1, r2, r3, r4⟩ := t_plnum (fu := fu) (k := 2) (lo := 0) (hi' := 8) (v := i3 2) h hP hO hi hT0 ht (by omega) h0 (by omega) (by omega) rfl rfl
            rw [if_neg (show ¬ ¬ i3 2 = 2 from fun z => z rfl)]
            exact ⟨Y', N, r1, r2, r3, PnN_rf, r4⟩
        · obtain ⟨Y', g1, g2, g3⟩ := o2 h0
          rw [g1]
          simp only [Option.bind_some]
          rw [if_pos trivial]
          simp only [if_neg h0]
          exact ⟨Y', N, rfl, g2, PxF_xn g3, PnN_rf, fun z => absurd z ne3⟩
      · have ewk : wHr (some k) 0 3 = -1 := if_neg (by omega)
        rw [ewk, if_pos (show (-1 : Int32) < 0 by decide), ei5, e]
        simp only [Option.bind_some, if_neg k3]
        by_cases k5 : k = 5
        · subst k5
          obtain ⟨o1, o2⟩ := t_isOnce (fu := fu) (k := 3) h hi ht (by omega) hm hP.2.1
          rw [if_pos (show ¬ bz (decide (some 5 = some 5)) = 0 by rw [decide_eq_true rfl]; decide)]
          simp only [if_true]
          by_cases h0 : S.2.2.1 / 8 % 2 = 0
          · obtain ⟨g1, g2⟩ := hP.2.2.2.1 h0
            rw [show F_X12_isOnce fu 0 3 (mmb Y N) = _ from o1 h0]
            simp only [Option.bind_some]
            rw [if_neg (show ¬ (1 : Int32) = 0 by decide), gr10 hL]
            simp only [Option.bind_some, if_pos h0]
            rw [show (24 : Int32) = i3 24 from rfl, gd90 hL (by omega), xi_i3 (by omega), m_0, up_ne (by omega), up_ne (by omega), g2, p_90]
            obtain ⟨Y', r1, r2, r3, r4⟩ := t_plrule (fu := fu) (S := S) h hP hO hi hT0 ht hT hf h0
            exact ⟨Y', N, r1, r2, r3, PnN_rf, r4⟩
          · obtain ⟨Y', g1, g2, g3⟩ := o2 h0
            rw [show F_X12_isOnce fu 0 3 (mmb Y N) = _ from g1]
            simp only [Option.bind_some]
            rw [if_pos trivial]
            simp only [if_neg h0]
            exact ⟨Y', N, rfl, g2, PxF_xn g3, PnN_rf, fun z => absurd z ne3⟩
        · rw [if_neg (show ¬ ¬ bz (decide (some k = some 5)) = 0 from fun z => z (by rw [decide_eq_false (by rw [hs]; exact k5)]; rfl))]
          simp only [if_neg k5]
          obtain ⟨Y', b1, b2, b3⟩ := bad1
          exact ⟨Y', N, b1, b2, PxF_xn b3, PnN_rf, fun z => absurd z ne1⟩
end
