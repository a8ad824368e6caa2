/-! ===== the rule's E, read: the class, loops ===== -/
section
variable {M M' M1 M2 : xM} {f : Nat → Nat} {fu l t T n i j k d s x a : Nat} {c : List Nat} {q : Nat × Nat × List Nat} {r : Nat → List Nat → Nat × Nat × List Nat} {jn : Nat → Option Nat} {v dd : Int32} {F : Nat → Option Nat → Int32 → xM → Option (Int32 × xM)}
theorem pLoop_s : pLoop jn r (n + 1) q = if q.1 = 0 then (match jn q.2.1 with | none => q | some x => pLoop jn r n (pEm (r (q.2.1 + 1) q.2.2) x)) else q := rfl
theorem pLoop_f (h : q.1 ≠ 0) : pLoop jn r (n + 1) q = q := by rw [pLoop_s, if_neg h]
theorem pLoop_n (h0 : q.1 = 0) (h : jn q.2.1 = none) : pLoop jn r (n + 1) q = q := by rw [pLoop_s, if_pos h0, h]
theorem pLoop_j (h0 : q.1 = 0) (h : jn q.2.1 = some x) : pLoop jn r (n + 1) q = pLoop jn r n (pEm (r (q.2.1 + 1) q.2.2) x) := by rw [pLoop_s, if_pos h0, h]
theorem pEm_1 : (pEm q x).1 = q.1 := rfl
/-- bounds behind a joint -/
theorem pEm_b (hB : pB T r) (hi : q.2.1 < T) (hc : q.2.2.length ≤ q.2.1) : (pEm (r (q.2.1 + 1) q.2.2) x).2.1 ≤ T ∧ (pEm (r (q.2.1 + 1) q.2.2) x).2.2.length ≤ (pEm (r (q.2.1 + 1) q.2.2) x).2.1 := by
  obtain ⟨z1, z2, z3⟩ := hB (q.2.1 + 1) q.2.2 1 hi (by omega)
  refine ⟨z2, ?_⟩
  show ((r (q.2.1 + 1) q.2.2).2.2 ++ [x]).length ≤ (r (q.2.1 + 1) q.2.2).2.1
  rw [len_s]; exact z3
theorem dec_t (h : q.1 = 0) : bz (decide (q.1 = 0)) = 1 := by rw [decide_eq_true h]; rfl
theorem dec_f (h : q.1 ≠ 0) : bz (decide (q.1 = 0)) = 0 := by rw [decide_eq_false h]; rfl
theorem e_proL (ha : a < 2) (hf : 1100 < fu) (hT0 : tS f t T = t) (hr : ClR f t T a F r dd) (hB : pB T r) (hT : T ≤ 1000) : ∀ n k l q M, k + n = 1000 → n < l → ClS f t a q M → q.2.1 ≤ T → q.2.2.length ≤ q.2.1 →
    ∃ M', L_X8_readProduct_10 fu F l a (some 0) dd (bz (decide (q.1 = 0))) (i3 k) M = some (bz (decide ((pLoop (jMul f t) r n q).1 = 0)), M') ∧ ClS f t a (pLoop (jMul f t) r n q) M' ∧ RdF a M M' := by
  intro n
  induction n with
  | zero =>
    intro k l q M hk hl h hi hc
    obtain ⟨l, rfl⟩ : ∃ k, l = k + 1 := ⟨l - 1, by omega⟩
    refine ⟨M, ?_, h, RdF_rf⟩
    have : k = 1000 := by omega
    subst this
    conv => lhs; unfold L_X8_readProduct_10
    rw [if_pos (show (1000 : Int32) ≤ i3 1000 from Int32.le_refl _), bz_x, gd_t]
    rfl
  | succ n ih =>
    intro k l q M hk hl h hi hc
    obtain ⟨l, rfl⟩ : ∃ k, l = k + 1 := ⟨l - 1, by omega⟩
    have hk1 : ¬ (1000 : Int32) ≤ i3 k := fun z => by have := (i3_le (a := 1000) (by omega) (by omega)).mp z; omega
    by_cases q0 : q.1 = 0
    · have hA := h.2.2.1 q0
      have es := e_isSign (fu := fu) (c := 42) hA (by omega)
      cases ej : sgB f t (tS f t q.2.1) 42 with
      | false =>
        have hn : jMul f t q.2.1 = none := by unfold jMul; rw [ej, if_neg (by decide)]
        rw [pLoop_n q0 hn]
        refine ⟨M, ?_, h, RdF_rf⟩
        conv => lhs; unfold L_X8_readProduct_10
        rw [if_neg hk1, dec_t q0, if_neg (by decide)]
        simp only [Option.bind_some]
        rw [show F_X10_isSign fu 0 42 M = _ from es, ej]
        rfl
      | true =>
        have hj : jMul f t q.2.1 = some 6 := by unfold jMul; rw [ej, if_pos rfl]
        have hlt := sg_lt hT0 hi ej
        rw [pLoop_j q0 hj]
        obtain ⟨M1, M2, M3, r1, r2, r3, r4, r5⟩ := itr_e (x := 6) ha hf hr hB hT h q0 hlt hc
        obtain ⟨b1, b2⟩ := pEm_b (x := 6) hB hlt hc
        obtain ⟨M', s1, s2, s3⟩ := ih (k + 1) l _ M3 (by omega) (by omega) r4 b1 b2
        refine ⟨M', ?_, s2, RdF_tr r5 s3⟩
        conv => lhs; unfold L_X8_readProduct_10
        rw [if_neg hk1, dec_t q0, if_neg (by decide)]
        simp only [Option.bind_some]
        rw [show F_X10_isSign fu 0 42 M = _ from es, ej]
        simp only [Option.bind_some]
        rw [if_neg (by decide), r1]
        simp only [Option.bind_some]
        rw [r2]
        simp only [Option.bind_some]
        rw [show F_X8_emit fu a (-6) M2 = _ from r3]
        simp only [Option.bind_some]
        rw [i3_add1]
        exact s1
    · rw [pLoop_f q0]
      refine ⟨M, ?_, h, RdF_rf⟩
      conv => lhs; unfold L_X8_readProduct_10
      rw [if_neg hk1, dec_f q0, if_pos rfl]
      rfl
theorem ClR_pro (ha : a < 2) (hf : 1100 < fu) (hT0 : tS f t T = t) (hr : ClR f t T a F r dd) (hB : pB T r) (hT : T ≤ 1000) : ClR f t T a (F_X8_readProduct fu F) (pPro f t r) dd := by
  intro i c M hi hc h
  obtain ⟨M1, r1, r2, r3⟩ := hr i c M hi hc h
  obtain ⟨z1, z2, z3⟩ := hB i c 0 hi (by omega)
  obtain ⟨M', s1, s2, s3⟩ := e_proL (fu := fu) ha hf hT0 hr hB hT 1000 0 fu (r i c) M1 (by omega) (by omega) r2 z2 (by omega)
  refine ⟨M', ?_, s2, RdF_tr r3 s3⟩
  unfold F_X8_readProduct
  rw [r1]
  simp only [Option.bind_some]
  exact s1
theorem e_sumL (ha : a < 2) (hf : 1100 < fu) (hT0 : tS f t T = t) (hr : ClR f t T a (F_X8_readProduct fu F) r dd) (hB : pB T r) (hT : T ≤ 1000) : ∀ n k l q M, k + n = 1000 → n < l → ClS f t a q M → q.2.1 ≤ T → q.2.2.length ≤ q.2.1 →
    ∃ M', L_X8_readSum_10 fu F l a (some 0) dd (bz (decide (q.1 = 0))) (i3 k) M = some (bz (decide ((pLoop (jSum f t) r n q).1 = 0)), M') ∧ ClS f t a (pLoop (jSum f t) r n q) M' ∧ RdF a M M' := by
  intro n
  induction n with
  | zero =>
    intro k l q M hk hl h hi hc
    obtain ⟨l, rfl⟩ : ∃ k, l = k + 1 := ⟨l - 1, by omega⟩
    refine ⟨M, ?_, h, RdF_rf⟩
    have : k = 1000 := by omega
    subst this
    conv => lhs; unfold L_X8_readSum_10
    rw [if_pos (show (1000 : Int32) ≤ i3 1000 from Int32.le_refl _), bz_x, gd_t]
    rfl
  | succ n ih =>
    intro k l q M hk hl h hi hc
    obtain ⟨l, rfl⟩ : ∃ k, l = k + 1 := ⟨l - 1, by omega⟩
    have hk1 : ¬ (1000 : Int32) ≤ i3 k := fun z => by have := (i3_le (a := 1000) (by omega) (by omega)).mp z; omega
    by_cases q0 : q.1 = 0
    · have hA := h.2.2.1 q0
      have es : F_X10_isSign fu 0 43 M = some (bz (sgB f t (tS f t q.2.1) 43), M) := e_isSign (fu := fu) (c := 43) hA (by omega)
      have es2 : F_X10_isSign fu 0 45 M = some (bz (sgB f t (tS f t q.2.1) 45), M) := e_isSign (fu := fu) (c := 45) hA (by omega)
      have go : ∀ x y, jSum f t q.2.1 = some x → clsC x = y → q.2.1 < T → ∃ M', J_X8_readSum_56 fu F (L_X8_readSum_10 fu F l) a (some 0) dd (i3 k) y M = some (bz (decide ((pLoop (jSum f t) r (n + 1) q).1 = 0)), M') ∧ ClS f t a (pLoop (jSum f t) r (n + 1) q) M' ∧ RdF a M M' := fun x y hj hy hlt => by
        rw [pLoop_j q0 hj]
        obtain ⟨M1, M2, M3, r1, r2, r3, r4, r5⟩ := itr_e (x := x) ha hf hr hB hT h q0 hlt hc
        obtain ⟨b1, b2⟩ := pEm_b (x := x) hB hlt hc
        obtain ⟨M', s1, s2, s3⟩ := ih (k + 1) l _ M3 (by omega) (by omega) r4 b1 b2
        refine ⟨M', ?_, s2, RdF_tr r5 s3⟩
        unfold J_X8_readSum_56
        simp only [Option.bind_some]
        rw [r1]
        simp only [Option.bind_some]
        rw [r2]
        simp only [Option.bind_some]
        rw [← hy, r3]
        simp only [Option.bind_some]
        rw [i3_add1]
        exact s1
      cases ej : sgB f t (tS f t q.2.1) 43 with
      | true =>
        have hj : jSum f t q.2.1 = some 4 := by unfold jSum; rw [ej, if_pos rfl]
        obtain ⟨M', g1, g2, g3⟩ := go 4 (-7) hj (by decide) (sg_lt hT0 hi ej)
        refine ⟨M', ?_, g2, g3⟩
        conv => lhs; unfold L_X8_readSum_10
        rw [if_neg hk1, dec_t q0, if_neg (by decide)]
        simp only [Option.bind_some]
        rw [es, ej]
        simp only [Option.bind_some]
        rw [if_pos (by decide)]
        unfold J_X8_readSum_40
        simp only [Option.bind_some]
        rw [es, ej]
        simp only [Option.bind_some]
        rw [if_neg (by decide)]
        exact g1
      | false =>
        cases ej2 : sgB f t (tS f t q.2.1) 45 with
        | true =>
          have hj : jSum f t q.2.1 = some 5 := by unfold jSum; rw [ej, if_neg (by decide), ej2, if_pos rfl]
          obtain ⟨M', g1, g2, g3⟩ := go 5 (-8) hj (by decide) (sg_lt hT0 hi ej2)
          refine ⟨M', ?_, g2, g3⟩
          conv => lhs; unfold L_X8_readSum_10
          rw [if_neg hk1, dec_t q0, if_neg (by decide)]
          simp only [Option.bind_some]
          rw [es, ej]
          simp only [Option.bind_some]
          rw [if_neg (by decide), es2, ej2]
          simp only [Option.bind_some]
          rw [if_neg (by decide)]
          unfold J_X8_readSum_40
          simp only [Option.bind_some]
          rw [es, ej]
          simp only [Option.bind_some]
          rw [if_pos (by decide)]
          exact g1
        | false =>
          have hn : jSum f t q.2.1 = none := by unfold jSum; rw [ej, if_neg (by decide), ej2, if_neg (by decide)]
          rw [pLoop_n q0 hn]
          refine ⟨M, ?_, h, RdF_rf⟩
          conv => lhs; unfold L_X8_readSum_10
          rw [if_neg hk1, dec_t q0, if_neg (by decide)]
          simp only [Option.bind_some]
          rw [es, ej]
          simp only [Option.bind_some]
          rw [if_neg (by decide), es2, ej2]
          rfl
    · rw [pLoop_f q0]
      refine ⟨M, ?_, h, RdF_rf⟩
      conv => lhs; unfold L_X8_readSum_10
      rw [if_neg hk1, dec_f q0, if_pos rfl]
      rfl
theorem ClR_sum (ha : a < 2) (hf : 1100 < fu) (hT0 : tS f t T = t) (hr : ClR f t T a F r dd) (hB : pB T r) (hT : T ≤ 1000) : ClR f t T a (F_X8_readSum fu F) (pSum f t r) dd := by
  intro i c M hi hc h
  have hr2 := ClR_pro ha hf hT0 hr hB hT
  have hB2 := pB_pro hT0 hB
  obtain ⟨M1, r1, r2, r3⟩ := hr2 i c M hi hc h
  obtain ⟨z1, z2, z3⟩ := hB2 i c 0 hi (by omega)
  obtain ⟨M', s1, s2, s3⟩ := e_sumL (fu := fu) ha hf hT0 hr2 hB2 hT 1000 0 fu (pPro f t r i c) M1 (by omega) (by omega) r2 z2 (by omega)
  refine ⟨M', ?_, s2, RdF_tr r3 s3⟩
  unfold F_X8_readSum
  rw [r1]
  simp only [Option.bind_some]
  exact s1
end
