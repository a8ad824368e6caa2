/-! ===== the rule's E, read: the class, tests and joints ===== -/
section
variable {M M' M1 M2 : xM} {f : Nat → Nat} {fu l t T n i j k d s x a : Nat} {c : List Nat} {q : Nat × Nat × List Nat} {r : Nat → List Nat → Nat × Nat × List Nat} {jn : Nat → Option Nat} {v dd : Int32} {F : Nat → Option Nat → Int32 → xM → Option (Int32 × xM)}
theorem gd_bz {b : Bool} {α : Type} {z : Option α} : gd (xbool (bz b)) z = z := by rw [bz_x, gd_t]
theorem ClR_tst (ha : a < 2) (hf : 1100 < fu) (hT0 : tS f t T = t) (hr : ClR f t T a F r dd) (hB : pB T r) (hT : T ≤ 1000) : ClR f t T a (F_X8_readTest fu F) (pTst f t r) dd := by
  intro i c M hi hc h
  have hr2 := ClR_sum ha hf hT0 hr hB hT
  have hB2 := pB_sum hT0 hB
  obtain ⟨M1, r1, r2, r3⟩ := hr2 i c M hi hc h
  obtain ⟨z1, z2, z3⟩ := hB2 i c 0 hi (by omega)
  unfold pTst
  generalize hq : pSum f t r i c = q at r1 r2 z1 z2 z3 ⊢
  by_cases q0 : q.1 = 0
  · have hA := r2.2.2.1 q0
    have es : F_X10_isSign fu 0 60 M1 = some (bz (sgB f t (tS f t q.2.1) 60), M1) := e_isSign (fu := fu) (c := 60) hA (by omega)
    have es2 : F_X10_isSign fu 0 61 M1 = some (bz (sgB f t (tS f t q.2.1) 61), M1) := e_isSign (fu := fu) (c := 61) hA (by omega)
    have go : ∀ x y, clsC x = y → q.2.1 < T → ∃ M', J_X8_readTest_45 fu F a (some 0) dd y M1 = some (bz (decide ((pEm (pSum f t r (q.2.1 + 1) q.2.2) x).1 = 0)), M') ∧ ClS f t a (pEm (pSum f t r (q.2.1 + 1) q.2.2) x) M' ∧ RdF a M1 M' := fun x y hy hlt => by
      obtain ⟨Ma, Mb, Mc, u1, u2, u3, u4, u5⟩ := itr_e (x := x) ha hf hr2 hB2 hT r2 q0 hlt (by omega)
      refine ⟨Mc, ?_, u4, u5⟩
      unfold J_X8_readTest_45
      simp only [Option.bind_some]
      rw [u1]
      simp only [Option.bind_some]
      rw [u2]
      simp only [Option.bind_some]
      rw [← hy, u3]
      simp only [Option.bind_some]
      rw [gd_bz]
      rfl
    cases ej : sgB f t (tS f t q.2.1) 60 with
    | true =>
      have hj : jTst f t q.2.1 = some 7 := by unfold jTst; rw [ej, if_pos rfl]
      obtain ⟨M', g1, g2, g3⟩ := go 7 (-9) (by decide) (sg_lt hT0 z2 ej)
      rw [if_pos q0, hj]
      refine ⟨M', ?_, g2, RdF_tr r3 g3⟩
      unfold F_X8_readTest
      rw [r1]
      simp only [Option.bind_some]
      rw [dec_t q0, if_neg (by decide), es, ej]
      simp only [Option.bind_some]
      rw [if_pos (by decide)]
      unfold J_X8_readTest_29
      simp only [Option.bind_some]
      rw [es, ej]
      simp only [Option.bind_some]
      rw [if_neg (by decide)]
      exact g1
    | false =>
      cases ej2 : sgB f t (tS f t q.2.1) 61 with
      | true =>
        have hj : jTst f t q.2.1 = some 8 := by unfold jTst; rw [ej, if_neg (by decide), ej2, if_pos rfl]
        obtain ⟨M', g1, g2, g3⟩ := go 8 (-10) (by decide) (sg_lt hT0 z2 ej2)
        rw [if_pos q0, hj]
        refine ⟨M', ?_, g2, RdF_tr r3 g3⟩
        unfold F_X8_readTest
        rw [r1]
        simp only [Option.bind_some]
        rw [dec_t q0, if_neg (by decide), es, ej]
        simp only [Option.bind_some]
        rw [if_neg (by decide), es2, ej2]
        simp only [Option.bind_some]
        rw [if_neg (by decide)]
        unfold J_X8_readTest_29
        simp only [Option.bind_some]
        rw [es, ej]
        simp only [Option.bind_some]
        rw [if_pos (by decide)]
        exact g1
      | false =>
        have hj : jTst f t q.2.1 = none := by unfold jTst; rw [ej, if_neg (by decide), ej2, if_neg (by decide)]
        rw [if_pos q0, hj]
        refine ⟨M1, ?_, r2, r3⟩
        unfold F_X8_readTest
        rw [r1]
        simp only [Option.bind_some]
        rw [dec_t q0, if_neg (by decide), es, ej]
        simp only [Option.bind_some]
        rw [if_neg (by decide), es2, ej2]
        simp only [Option.bind_some]
        rw [if_pos (show bz false = 0 from rfl), xb_t, gd_t]
  · rw [if_neg q0]
    refine ⟨M1, ?_, r2, r3⟩
    unfold F_X8_readTest
    rw [r1]
    simp only [Option.bind_some]
    rw [dec_f q0, if_pos rfl, xb_f, gd_t]
theorem kw_c (h : AtC f t s M) (hk : k < 23) : (gI M 10 0 3 = i3 k) ↔ tkK f t s = some k := by
  rw [h.2.2.2.2.2.1]
  cases e : tkK f t s with
  | none =>
    rw [tkW_n e]
    exact ⟨fun q => absurd q (neg_i3 (by omega)), fun q => by cases q⟩
  | some j =>
    rw [tkW_s e]
    have := (tkK_lt e).1
    constructor
    · intro q; rw [(i3_eq (by omega) (by omega)).mp q]
    · intro q; injection q with q; rw [q]
theorem e_allL (ha : a < 2) (hf : 1100 < fu) (hT0 : tS f t T = t) (hr : ClR f t T a (F_X8_readTest fu F) r dd) (hB : pB T r) (hT : T ≤ 1000) : ∀ n k l q M, k + n = 1000 → n < l → ClS f t a q M → q.2.1 ≤ T → q.2.2.length ≤ q.2.1 →
    ∃ M', L_X8_readAll_10 fu F l a (some 0) dd (bz (decide (q.1 = 0))) (i3 k) M = some (bz (decide ((pLoop (jAll f t) r n q).1 = 0)), M') ∧ ClS f t a (pLoop (jAll f t) r n q) M' ∧ RdF a M M' := by
  intro n
  induction n with
  | zero =>
    intro k l q M hk hl h hi hc
    obtain ⟨l, rfl⟩ : ∃ k, l = k + 1 := ⟨l - 1, by omega⟩
    refine ⟨M, ?_, h, RdF_rf⟩
    have : k = 1000 := by omega
    subst this
    conv => lhs; unfold L_X8_readAll_10
    rw [if_pos (show (1000 : Int32) ≤ i3 1000 from Int32.le_refl _), bz_x, gd_t]
    rfl
  | succ n ih =>
    intro k l q M hk hl h hi hc
    obtain ⟨l, rfl⟩ : ∃ k, l = k + 1 := ⟨l - 1, by omega⟩
    have hk1 : ¬ (1000 : Int32) ≤ i3 k := fun z => by have := (i3_le (a := 1000) (by omega) (by omega)).mp z; omega
    by_cases q0 : q.1 = 0
    · have hA := h.2.2.1 q0
      have w17 : gI M 10 0 3 = 17 ↔ tkK f t (tS f t q.2.1) = some 17 := kw_c (k := 17) hA (by omega)
      have w18 : gI M 10 0 3 = 18 ↔ tkK f t (tS f t q.2.1) = some 18 := kw_c (k := 18) hA (by omega)
      have go : ∀ x y, jAll f t q.2.1 = some x → clsC x = y → q.2.1 < T → ∃ M', J_X8_readAll_56 fu F (L_X8_readAll_10 fu F l) a (some 0) dd (i3 k) y M = some (bz (decide ((pLoop (jAll f t) r (n + 1) q).1 = 0)), M') ∧ ClS f t a (pLoop (jAll f t) r (n + 1) q) M' ∧ RdF a M M' := fun x y hj hy hlt => by
        rw [pLoop_j q0 hj]
        obtain ⟨M1, M2, M3, r1, r2, r3, r4, r5⟩ := itr_e (x := x) ha hf hr hB hT h q0 hlt hc
        obtain ⟨b1, b2⟩ := pEm_b (x := x) hB hlt hc
        obtain ⟨M', s1, s2, s3⟩ := ih (k + 1) l _ M3 (by omega) (by omega) r4 b1 b2
        refine ⟨M', ?_, s2, RdF_tr r5 s3⟩
        unfold J_X8_readAll_56
        simp only [Option.bind_some]
        rw [r1]
        simp only [Option.bind_some]
        rw [r2]
        simp only [Option.bind_some]
        rw [← hy, r3]
        simp only [Option.bind_some]
        rw [i3_add1]
        exact s1
      by_cases e17 : tkK f t (tS f t q.2.1) = some 17
      · have hj : jAll f t q.2.1 = some 9 := by unfold jAll; rw [if_pos e17]
        obtain ⟨M', g1, g2, g3⟩ := go 9 (-11) hj (by decide) (kw_lt hT0 hi e17)
        refine ⟨M', ?_, g2, g3⟩
        conv => lhs; unfold L_X8_readAll_10
        rw [if_neg hk1, dec_t q0, if_neg (by decide)]
        simp only [Option.bind_some]
        rw [if_pos (w17.mpr e17)]
        unfold J_X8_readAll_40
        simp only [Option.bind_some]
        rw [if_neg (fun z => z (w17.mpr e17))]
        exact g1
      · by_cases e18 : tkK f t (tS f t q.2.1) = some 18
        · have hj : jAll f t q.2.1 = some 10 := by unfold jAll; rw [if_neg e17, if_pos e18]
          obtain ⟨M', g1, g2, g3⟩ := go 10 (-12) hj (by decide) (kw_lt hT0 hi e18)
          refine ⟨M', ?_, g2, g3⟩
          conv => lhs; unfold L_X8_readAll_10
          rw [if_neg hk1, dec_t q0, if_neg (by decide)]
          simp only [Option.bind_some]
          rw [if_neg (fun z => e17 (w17.mp z)), if_neg (fun z => z (w18.mpr e18))]
          unfold J_X8_readAll_40
          simp only [Option.bind_some]
          rw [if_pos (fun z => e17 (w17.mp z))]
          exact g1
        · have hn : jAll f t q.2.1 = none := by unfold jAll; rw [if_neg e17, if_neg e18]
          rw [pLoop_n q0 hn]
          refine ⟨M, ?_, h, RdF_rf⟩
          conv => lhs; unfold L_X8_readAll_10
          rw [if_neg hk1, dec_t q0, if_neg (by decide)]
          simp only [Option.bind_some]
          rw [if_neg (fun z => e17 (w17.mp z)), if_pos (fun z => e18 (w18.mp z))]
          rfl
    · rw [pLoop_f q0]
      refine ⟨M, ?_, h, RdF_rf⟩
      conv => lhs; unfold L_X8_readAll_10
      rw [if_neg hk1, dec_f q0, if_pos rfl]
      rfl
theorem ClR_all (ha : a < 2) (hf : 1100 < fu) (hT0 : tS f t T = t) (hr : ClR f t T a F r dd) (hB : pB T r) (hT : T ≤ 1000) : ClR f t T a (F_X8_readAll fu F) (pAll f t r) dd := by
  intro i c M hi hc h
  have hr2 := ClR_tst ha hf hT0 hr hB hT
  have hB2 := pB_tst hT0 hB
  obtain ⟨M1, r1, r2, r3⟩ := hr2 i c M hi hc h
  obtain ⟨z1, z2, z3⟩ := hB2 i c 0 hi (by omega)
  obtain ⟨M', s1, s2, s3⟩ := e_allL (fu := fu) ha hf hT0 hr2 hB2 hT 1000 0 fu (pTst f t r i c) M1 (by omega) (by omega) r2 z2 (by omega)
  refine ⟨M', ?_, s2, RdF_tr r3 s3⟩
  unfold F_X8_readAll
  rw [r1]
  simp only [Option.bind_some]
  exact s1
end
