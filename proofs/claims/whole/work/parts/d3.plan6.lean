/-! ===== a PLAN's lines: what is told can be ===== -/
section
variable {M M' M1 M5 N : xM} {X Y Y' Y1 : xT} {f : Nat → Nat} {fu l t T n i j k d s x a b w F e m g lo hi p : Nat} {c ls : List Nat} {q : Nat × Nat} {u v y0 : Int32} {nm : Nat → List Nat} {S S' : plS} {y : Int64} {C : xC}
theorem tkNu_T (hT0 : tS f t T = t) (hi : i ≤ T) : (tkNu f t i k d).2.1 ≤ T := by
  unfold tkNu
  by_cases c : tkT f t (tS f t i) = 2
  · have := tok_lt hT0 hi (show tkT f t (tS f t i) ≠ 0 by rw [c]; decide)
    rw [if_pos c]
    by_cases c2 : k ≤ nuN f (tS f t i) (tkE f t (tS f t i) - tS f t i) ∧ nuN f (tS f t i) (tkE f t (tS f t i) - tS f t i) ≤ d
    · rw [if_pos c2]; exact this
    · rw [if_neg c2]; exact hi
  · rw [if_neg c]; exact hi
theorem tkNu_ge (h0 : (tkNu f t i k d).1 = 0) : k ≤ (tkNu f t i k d).2.2 := by
  unfold tkNu at h0 ⊢
  by_cases c : tkT f t (tS f t i) = 2
  · rw [if_pos c] at h0 ⊢
    by_cases c2 : k ≤ nuN f (tS f t i) (tkE f t (tS f t i) - tS f t i) ∧ nuN f (tS f t i) (tkE f t (tS f t i) - tS f t i) ≤ d
    · rw [if_pos c2]; exact c2.1
    · rw [if_neg c2] at h0
      have h0' : 4 + 16 * tS f t i = 0 := h0
      omega
  · rw [if_neg c] at h0
    have h0' : 1 + 16 * tS f t i = 0 := h0
    omega
theorem tkSg_T (hT0 : tS f t T = t) (hi : i ≤ T) : (tkSg f t i w).2 ≤ T := by
  unfold tkSg
  by_cases c : sgB f t (tS f t i) w = true
  · rw [if_pos c]; exact sg_lt hT0 hi c
  · rw [if_neg c]; exact hi
theorem kdO_some (h : kdO f t s = some k) : k < 4 ∧ tkK f t s = some (k + 12) := by
  unfold kdO at h
  cases e : tkK f t s with
  | none => rw [e] at h; cases h
  | some m =>
    rw [e] at h
    have h' : (if 12 ≤ m ∧ m ≤ 15 then some (m - 12) else none) = some k := h
    by_cases c : 12 ≤ m ∧ m ≤ 15
    · rw [if_pos c] at h'
      injection h' with h'
      exact ⟨by omega, by congr 1; omega⟩
    · rw [if_neg c] at h'; cases h'
theorem tld_2 : ∀ m : Fin 16, ∀ k : Fin 4, ((m : Nat) / 2 ^ (k : Nat) % 2 = 0) → (m : Nat) + 2 ^ (k : Nat) < 16 ∧ (k.val < 3 → ((m : Nat) + 2 ^ (k : Nat)) / 8 % 2 = (m : Nat) / 8 % 2) ∧ (k.val = 3 → ((m : Nat) + 2 ^ (k : Nat)) / 8 % 2 = 1) := by decide +kernel
theorem told_2 (hm : m < 16) (hk : k < 4) (h0 : m / 2 ^ k % 2 = 0) : m + 2 ^ k < 16 ∧ (k < 3 → (m + 2 ^ k) / 8 % 2 = m / 8 % 2) ∧ (k = 3 → (m + 2 ^ k) / 8 % 2 = 1) := tld_2 ⟨m, hm⟩ ⟨k, hk⟩ h0
/-- a number told -/
theorem plNum_ok (hO : PlOk S) (hk : k < 3) (h0 : S.2.2.1 / 2 ^ k % 2 = 0) (hh : hi ≤ 6 ∨ k = 2 ∧ hi ≤ 8) : PlOk (plNum f t S k lo hi i).2.2 := by
  obtain ⟨o1, o2, o3, o4, o5, o6, o7, o8, o9, o10, o11⟩ := hO
  have hv := tkNu_le (f := f) (t := t) (i := i + 1) (k := lo) (d := hi)
  obtain ⟨t1, t2, t3⟩ := told_2 o7 (show k < 4 by omega) h0
  have e : ∀ x j, j ≠ k → cUp S.1 0 k x 0 j = S.1 0 j := fun x j hj => cUp_n (by omega)
  have e3 : ∀ x, cUp S.1 0 k x 0 3 = S.1 0 3 := fun x => cUp_n (by omega)
  unfold plNum
  generalize tkNu f t (i + 1) lo hi = p at hv ⊢
  have b : ∀ j B, S.1 0 j ≤ B → (j = k → hi ≤ B) → cUp S.1 0 k p.2.2 0 j ≤ B := fun j B h1 h2 => by
    by_cases c : j = k
    · rw [c, cUp_e]; have := h2 c; omega
    · rw [e _ _ c]; exact h1
  refine ⟨b 0 6 o1 (by omega), b 1 6 o2 (by omega), b 2 8 o3 (by omega), ?_, ?_, o6, t1, fun j hj => ?_, fun j j' hj hj' => ?_, fun z => o10 ?_, fun z => o11 ?_⟩
  · show cUp S.1 0 k p.2.2 0 3 ≤ 5
    rw [e3]; exact o4
  · show cUp S.1 0 k p.2.2 0 4 = _
    rw [e _ _ (by omega)]; exact o5
  · have hj2 : j < cUp S.1 0 k p.2.2 0 3 := hj
    rw [e3] at hj2
    show cUp S.1 0 k p.2.2 1 j < 4 ∧ 1 ≤ cUp S.1 0 k p.2.2 2 j ∧ cUp S.1 0 k p.2.2 2 j ≤ 4 ∧ _
    rw [cUp_n (by omega), cUp_n (by omega)]
    exact o8 j hj2
  · have hj2 : j < cUp S.1 0 k p.2.2 0 3 := hj
    have hj3 : j' < cUp S.1 0 k p.2.2 0 3 := hj'
    rw [e3] at hj2 hj3
    exact o9 j j' hj2 hj3
  · have z' : (S.2.2.1 + 2 ^ k) / 8 % 2 = 0 := z
    rw [t2 hk] at z'; exact z'
  · have z' : (S.2.2.1 + 2 ^ k) / 8 % 2 = 1 := z
    rw [t2 hk] at z'; exact z'
/-- a file told -/
theorem flUp_ok (hO : PlOk S) (h5 : S.1 0 3 < 5) (hk : k < 4) (hp : 1 ≤ p ∧ p ≤ 4) (h8 : ls.length ≤ 8) (h26 : ∀ x, x ∈ ls → 1 ≤ x ∧ x ≤ 26) (hn : ∀ j, j < S.1 0 3 → S.2.1 j ≠ ls) : PlOk (flUp S ls k p) := by
  obtain ⟨o1, o2, o3, o4, o5, o6, o7, o8, o9, o10, o11⟩ := hO
  refine ⟨by rw [fl_0 (by omega)]; exact o1, by rw [fl_0 (by omega)]; exact o2, by rw [fl_0 (by omega)]; exact o3, by rw [fl_3]; omega, by rw [fl_0 (by omega)]; exact o5, o6, o7, fun j hj => ?_, fun j j' hj hj' he => ?_, o10, o11⟩
  · rw [fl_3] at hj
    by_cases c : j = S.1 0 3
    · rw [c, fl_1, fl_2, fl_n]; exact ⟨hk, hp.1, hp.2, h8, h26⟩
    · rw [fl_1n c, fl_2n c, fl_nn c]; exact o8 j (by omega)
  · rw [fl_3] at hj hj'
    by_cases c : j = S.1 0 3
    · by_cases c' : j' = S.1 0 3
      · omega
      · rw [c, fl_n, fl_nn c'] at he
        exact absurd he.symm (hn j' (by omega))
    · by_cases c' : j' = S.1 0 3
      · rw [c', fl_n, fl_nn c] at he
        exact absurd he (hn j (by omega))
      · rw [fl_nn c, fl_nn c'] at he
        exact o9 j j' (by omega) (by omega) he
theorem plFile_ok (hO : PlOk S) (hT0 : tS f t T = t) (hi : i < T) (h0 : (plFile f t S i).1 = 0) : PlOk (plFile f t S i).2.2 ∧ (plFile f t S i).2.1 ≤ T := by
  unfold plFile at h0 ⊢
  by_cases c5 : S.1 0 3 < 5
  · rw [if_pos c5] at h0 ⊢
    by_cases cn : isNm f t (tS f t (i + 1)) = true
    · rw [if_pos cn] at h0 ⊢
      have c1 : tkT f t (tS f t (i + 1)) = 1 := by
        have e' := cn
        unfold isNm at e'
        rw [Bool.and_eq_true, decide_eq_true_eq] at e'
        exact e'.1
      have hl1 := tok_lt hT0 (show i + 1 ≤ T by omega) (show tkT f t (tS f t (i + 1)) ≠ 0 by rw [c1]; decide)
      obtain ⟨q1, q2, q3, q4, q5, q6, q7, q8, q9⟩ := tk_w c1
      cases eo : ixO S.2.1 (S.1 0 3) (tkL f t (tS f t (i + 1))) with
      | some k0 =>
        rw [eo] at h0
        have h0' : 3 + 16 * tS f t (i + 1) = 0 := h0
        omega
      | none =>
        rw [eo] at h0
        have hno := lst_none.mp eo
        have h0' : (plKind f t S (tkL f t (tS f t (i + 1))) (i + 2)).1 = 0 := h0
        show PlOk (plKind f t S (tkL f t (tS f t (i + 1))) (i + 2)).2.2 ∧ (plKind f t S (tkL f t (tS f t (i + 1))) (i + 2)).2.1 ≤ T
        unfold plKind at h0' ⊢
        cases ek : kdO f t (tS f t (i + 2)) with
        | none =>
          rw [ek] at h0'
          have h1 : 1 + 16 * tS f t (i + 2) = 0 := h0'
          omega
        | some k =>
          rw [ek] at h0'
          obtain ⟨k4, kk⟩ := kdO_some ek
          have hl2 := kw_lt hT0 (show i + 2 ≤ T by omega) kk
          simp only at h0' ⊢
          by_cases c4 : tkK f t (tS f t (i + 2 + 1)) = some 4
          · rw [if_pos c4] at h0' ⊢
            have hl3 := kw_lt hT0 (show i + 2 + 1 ≤ T by omega) c4
            have g1 := tkNu_ge (f := f) (t := t) (i := i + 2 + 2) (k := 1) (d := 4) h0'
            have g2 := tkNu_le (f := f) (t := t) (i := i + 2 + 2) (k := 1) (d := 4)
            exact ⟨flUp_ok hO c5 k4 ⟨g1, g2⟩ q8 q9 (fun j hj z => by
              have := hno j hj
              rw [decide_eq_false_iff_not] at this
              exact this z), tkNu_T hT0 (by omega)⟩
          · rw [if_neg c4] at h0'
            have h1 : 1 + 16 * tS f t (i + 2 + 1) = 0 := h0'
            omega
    · rw [if_neg cn] at h0
      have h0' : 1 + 16 * tS f t (i + 1) = 0 := h0
      omega
  · rw [if_neg c5] at h0
    have h0' : 5 + 16 * tS f t i = 0 := h0
    omega
theorem plRule_ok (hO : PlOk S) (h8 : S.2.2.1 / 8 % 2 = 0) (hT0 : tS f t T = t) (hT : T ≤ 1000) (hi : i < T) (h0 : (plRule f t S i).1 = 0) : PlOk (plRule f t S i).2.2 ∧ (plRule f t S i).2.1 ≤ T := by
  obtain ⟨o1, o2, o3, o4, o5, o6, o7, o8, o9, o10, o11⟩ := hO
  obtain ⟨t1, t2, t3⟩ := told_2 (k := 3) o7 (by omega) h8
  have hw := wf_all (f := f) (t := t) (B := 0) (wf_part (f := f) (t := t) 16 0 (by omega) (by omega)) (i + 1) [] (fun k hk => absurd hk (Nat.not_lt_zero _)) (Nat.le_refl _) h0
  obtain ⟨z1, z2, z3⟩ := pB_all hT0 (pB_part (f := f) hT0 16 0) (i + 1) [] 0 (by omega) (Nat.zero_le _)
  unfold plRule at h0 ⊢
  generalize pAll f t (pPart f t 16 0) (i + 1) [] = p at h0 hw z1 z2 z3 ⊢
  have e : ∀ x j, j ≠ 4 → cUp S.1 0 4 x 0 j = S.1 0 j := fun x j hj => cUp_n (by omega)
  refine ⟨⟨?_, ?_, ?_, ?_, cUp_e (C := S.1) (j := 0) (k := 4) (x := p.2.2.length), by show p.2.2.length ≤ 1000; omega, t1, fun j hj => ?_, fun j j' hj hj' => ?_, fun z => ?_, fun _ => ?_⟩, z2⟩
  · show cUp S.1 0 4 p.2.2.length 0 0 ≤ 6
    rw [e _ _ (by omega)]; exact o1
  · show cUp S.1 0 4 p.2.2.length 0 1 ≤ 6
    rw [e _ _ (by omega)]; exact o2
  · show cUp S.1 0 4 p.2.2.length 0 2 ≤ 8
    rw [e _ _ (by omega)]; exact o3
  · show cUp S.1 0 4 p.2.2.length 0 3 ≤ 5
    rw [e _ _ (by omega)]; exact o4
  · have hj2 : j < cUp S.1 0 4 p.2.2.length 0 3 := hj
    rw [e _ _ (by omega)] at hj2
    show cUp S.1 0 4 p.2.2.length 1 j < 4 ∧ 1 ≤ cUp S.1 0 4 p.2.2.length 2 j ∧ cUp S.1 0 4 p.2.2.length 2 j ≤ 4 ∧ _
    rw [cUp_n (by omega), cUp_n (by omega)]
    exact o8 j hj2
  · have hj2 : j < cUp S.1 0 4 p.2.2.length 0 3 := hj
    have hj3 : j' < cUp S.1 0 4 p.2.2.length 0 3 := hj'
    rw [e _ _ (by omega)] at hj2 hj3
    exact o9 j j' hj2 hj3
  · have z' : (S.2.2.1 + 2 ^ 3) / 8 % 2 = 0 := z
    rw [t3 rfl] at z'; cases z'
  · exact ⟨hw.1, hw.2⟩
theorem plLn_ok (hO : PlOk S) (hT0 : tS f t T = t) (hT : T ≤ 1000) (hi : i < T) (h0 : (plLn f t S i).1 = 0) : PlOk (plLn f t S i).2.2 ∧ (plLn f t S i).2.1 ≤ T := by
  have ne1 : ¬ (1 + 16 * tS f t i = 0) := by omega
  have ne3 : ¬ (3 + 16 * tS f t i = 0) := by omega
  unfold plLn at h0 ⊢
  cases e : tkK f t (tS f t i) with
  | none =>
    rw [e] at h0
    exact absurd h0 ne1
  | some k =>
    rw [e] at h0
    simp only at h0 ⊢
    by_cases c3 : k = 3
    · rw [if_pos c3] at h0 ⊢
      exact plFile_ok hO hT0 hi h0
    · rw [if_neg c3] at h0 ⊢
      by_cases k3 : k < 3
      · rw [if_pos k3] at h0 ⊢
        by_cases c0 : S.2.2.1 / 2 ^ k % 2 = 0
        · rw [if_pos c0] at h0 ⊢
          refine ⟨plNum_ok hO k3 c0 ?_, tkNu_T hT0 hi⟩
          by_cases k2 : k = 2
          · rw [if_pos k2]; exact Or.inr ⟨k2, Nat.le_refl _⟩
          · rw [if_neg k2]; exact Or.inl (Nat.le_refl _)
        · rw [if_neg c0] at h0; exact absurd h0 ne3
      · rw [if_neg k3] at h0 ⊢
        by_cases k5 : k = 5
        · rw [if_pos k5] at h0 ⊢
          by_cases c0 : S.2.2.1 / 8 % 2 = 0
          · rw [if_pos c0] at h0 ⊢
            exact plRule_ok hO c0 hT0 hT hi h0
          · rw [if_neg c0] at h0; exact absurd h0 ne3
        · rw [if_neg k5] at h0; exact absurd h0 ne1
end
