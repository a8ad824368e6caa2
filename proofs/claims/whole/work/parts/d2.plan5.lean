/-! ===== a PLAN's line, read: the class, together ===== -/
section
variable {M M' M1 M5 N : xM} {X Y Y' Y1 : xT} {f : Nat → Nat} {fu l t T n i j k d s x a b w F e m g lo hi p : Nat} {c ls : List Nat} {q : Nat × Nat} {u v y0 : Int32} {nm : Nat → List Nat} {S S' : plS} {y : Int64} {C : xC}
theorem e_pline (h : LnC f t (0, i) M) (hP : PlC a S M) (hO : PlOk S) (ha : a < 2) (hf : 1100 < fu) (hT0 : tS f t T = t) (hT : T ≤ 1000) (hi : i < T) :
    ∃ M', F_X7_readLine fu a (some 0) M = some (bz (decide ((plLn f t S i).1 = 0)), M') ∧ LnC f t ((plLn f t S i).1, (plLn f t S i).2.1) M' ∧ PnF a M M' ∧ ((plLn f t S i).1 = 0 → PlC a (plLn f t S i).2.2 M') := by
  have hA : AtC f t (tS f t i) M := h.2.1 rfl
  have hm := hO.2.2.2.2.2.2.1
  unfold F_X7_readLine plLn
  simp only [Option.bind_some]
  rw [hA.2.2.2.2.2.1]
  have bad1 : ∃ M', ((F_X10_fail fu 0 (i3 1) M).bind fun p_3 => gd (xbool p_3.1) (some (p_3.1, p_3.2))) = some (bz (decide (1 + 16 * tS f t i = 0)), M') ∧ LnC f t (1 + 16 * tS f t i, i) M' ∧ PnF a M M' := pl_bad h (by omega)
  have bad3 : ∃ M', ((F_X10_fail fu 0 (i3 3) M).bind fun p_3 => gd (xbool p_3.1) (some (p_3.1, p_3.2))) = some (bz (decide (3 + 16 * tS f t i = 0)), M') ∧ LnC f t (3 + 16 * tS f t i, i) M' ∧ PnF a M M' := pl_bad h (by omega)
  have ne1 : ¬ (1 + 16 * tS f t i = 0) := by omega
  have ne3 : ¬ (3 + 16 * tS f t i = 0) := by omega
  cases e : tkK f t (tS f t i) with
  | none =>
    rw [tkW_n e, if_pos (show ¬ (-1 : Int32) = 3 by decide), if_pos (show (-1 : Int32) < 0 by decide)]
    obtain ⟨M', b1, b2, b3⟩ := bad1
    exact ⟨M', b1, b2, b3, fun z => absurd z ne1⟩
  | some k =>
    have hk := (tkK_lt e).1
    rw [tkW_s e]
    by_cases c3 : k = 3
    · subst c3
      obtain ⟨M', r1, r2, r3, r4⟩ := e_file (fu := fu) h hP hO ha hf
      rw [if_neg (show ¬ ¬ i3 3 = 3 from fun z => z rfl), r1]
      simp only [Option.bind_some]
      rw [bz_x, gd_t]
      simp only [if_true]
      exact ⟨M', rfl, r2, r3, r4⟩
    · rw [if_pos (show ¬ i3 k = 3 from fun z => c3 ((i3_eq (b := 3) (by omega) (by omega)).mp z)), if_neg (show ¬ i3 k < 0 from fun z => (i3_nl (a := k) (by omega)).mp z)]
      simp only [if_neg c3]
      by_cases c5 : 5 < k
      · rw [if_pos (show (5 : Int32) < i3 k from (i3_lt (a := 5) (by omega) (by omega)).mpr c5)]
        simp only [if_neg (show ¬ k < 3 by omega), if_neg (show ¬ k = 5 by omega)]
        obtain ⟨M', b1, b2, b3⟩ := bad1
        exact ⟨M', b1, b2, b3, fun z => absurd z ne1⟩
      · rw [if_neg (show ¬ (5 : Int32) < i3 k from fun z => c5 ((i3_lt (a := 5) (by omega) (by omega)).mp z))]
        by_cases c4 : k = 4
        · rw [if_neg (show ¬ ¬ i3 k = 4 from fun z => z (by rw [c4]; rfl))]
          simp only [if_neg (show ¬ k < 3 by omega), if_neg (show ¬ k = 5 by omega)]
          obtain ⟨M', b1, b2, b3⟩ := bad1
          exact ⟨M', b1, b2, b3, fun z => absurd z ne1⟩
        · rw [if_pos (show ¬ i3 k = 4 from fun z => c4 ((i3_eq (b := 4) (by omega) (by omega)).mp z)), hP.2.1]
          by_cases k3 : k < 3
          · simp only [if_pos k3]
            have ht0 := told_0 (k := k) (j := k) hm (by omega) (by unfold tbK; rw [if_neg (by omega)])
            by_cases h0 : S.2.2.1 / 2 ^ k % 2 = 0
            · rw [if_pos (ht0.mpr h0), told_1 (k := k) (j := k) hm (by omega) (by unfold tbK; rw [if_neg (by omega)]) h0]
              simp only [if_pos h0]
              rcases (show k = 0 ∨ k = 1 ∨ k = 2 by omega) with rfl | rfl | rfl
              · obtain ⟨M', r1, r2, r3, r4⟩ := e_plnum (fu := fu) (lo := 1) (hi := 6) h hP hO hf (by omega) h0 (by omega) (by omega)
                exact ⟨M', r1, r2, r3, r4⟩
              · obtain ⟨M', r1, r2, r3, r4⟩ := e_plnum (fu := fu) (lo := 1) (hi := 6) h hP hO hf (by omega) h0 (by omega) (by omega)
                exact ⟨M', r1, r2, r3, r4⟩
              · obtain ⟨M', r1, r2, r3, r4⟩ := e_plnum (fu := fu) (lo := 0) (hi := 8) h hP hO hf (by omega) h0 (by omega) (by omega)
                exact ⟨M', r1, r2, r3, r4⟩
            · rw [if_neg (fun z => h0 (ht0.mp z))]
              simp only [if_neg h0]
              obtain ⟨M', b1, b2, b3⟩ := bad3
              exact ⟨M', b1, b2, b3, fun z => absurd z ne3⟩
          · have k5 : k = 5 := by omega
            subst k5
            simp only [if_neg k3, if_true]
            have ht0 := told_0 (k := 3) (j := 5) hm (by omega) rfl
            by_cases h0 : S.2.2.1 / 8 % 2 = 0
            · rw [if_pos (ht0.mpr h0), told_1 (k := 3) (j := 5) hm (by omega) rfl h0]
              simp only [if_pos h0]
              obtain ⟨M', r1, r2, r3, r4⟩ := e_plrule (fu := fu) (S := S) h hP ha hf hT0 hT hi
              exact ⟨M', r1, r2, r3, r4⟩
            · rw [if_neg (fun z => h0 (ht0.mp z))]
              simp only [if_neg h0]
              obtain ⟨M', b1, b2, b3⟩ := bad3
              exact ⟨M', b1, b2, b3, fun z => absurd z ne3⟩
end
