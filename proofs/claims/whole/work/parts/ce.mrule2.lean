/-! ===== the rule's E, read: the reference, sums, tests, joints ===== -/
section
variable {M M' M1 M2 N : xM} {X Y Y' Y1 Z : xT} {f : Nat → Nat} {fu l t T n i j k d s x a b w : Nat} {c : List Nat} {q : Nat × Nat × List Nat} {r : Nat → List Nat → Nat × Nat × List Nat} {jn : Nat → Option Nat} {u v dd x3 : Int32} {F : Nat → Int32 → xM → Option xM}
theorem MdS_v (h : MdS f t T q Y N) (h0 : q.1 ≠ 0) : i3 q.1 ≠ 0 := fun z => h0 ((i3_eq (b := 0) (by have := h.2.1; omega) (by omega)).mp z)
theorem isS_m (h : MdS f t T q Y N) (h0 : q.1 = 0) (hw : w ≤ 126) : F_X12_isSign fu 0 (i3 w) (mmb Y N) = some (bz (sgB f t (tS f t q.2.1) w), mmb Y N) := t_isSign h.1 (by rw [h0]; rfl) hw
theorem isW_m (h : MdS f t T q Y N) (h0 : q.1 = 0) (hw : w < 23) : F_X12_isWord fu 0 (i3 w) (mmb Y N) = some (bz (decide (tkK f t (tS f t q.2.1) = some w)), mmb Y N) := t_isWord h.1 (by rw [h0]; rfl) hw
theorem ps_7 (h : MdS f t T q Y N) : sI (mmb Y N) 12 0 7 (gI (mmb Y N) 12 0 7 + 1) = mmb (up Y 0 7 (i3 (q.2.1 + 1))) N := by
  rw [m_0, h.1.2.2.2.2.2.2.2.2.2.1, i3_add1, p_0]
theorem t_sumL (hT0 : tS f t T = t) (hr : MdR f t T N (F_X12_products fu F) r dd) (hB : pB T r) (hT : T ≤ 1000) : ∀ n l q Y, T ≤ q.2.1 + n → n < l → MdS f t T q Y N → q.2.1 ≤ T → q.2.2.length ≤ q.2.1 →
    ∃ Y', L_X12_sums_5 fu F l 0 dd (mmb Y N) = some (mmb Y' N) ∧ MdS f t T (pLoop (jSum f t) r n q) Y' N ∧ XdF Y Y' := by
  intro n
  have stop : ∀ l q Y, MdS f t T q Y N → (q.1 ≠ 0 ∨ sgB f t (tS f t q.2.1) 43 = false ∧ sgB f t (tS f t q.2.1) 45 = false) → L_X12_sums_5 fu F (l + 1) 0 dd (mmb Y N) = some (mmb Y N) := fun l q Y h hs => by
    conv => lhs; unfold L_X12_sums_5
    by_cases q0 : q.1 = 0
    · obtain ⟨e1, e2⟩ := hs.resolve_left (fun z => z q0)
      rw [show F_X12_isSign fu 0 43 (mmb Y N) = _ from isS_m (w := 43) h q0 (by omega), e1]
      simp only [Option.bind_some]
      rw [if_neg (by decide), show F_X12_isSign fu 0 45 (mmb Y N) = _ from isS_m (w := 45) h q0 (by omega), e2]
      rfl
    · rw [t_isSignF h.1 (MdS_v h q0)]
      simp only [Option.bind_some]
      rw [if_neg (fun z => z trivial), t_isSignF h.1 (MdS_v h q0)]
      rfl
  induction n with
  | zero =>
    intro l q Y hn hl h hi hc
    obtain ⟨l, rfl⟩ : ∃ k, l = k + 1 := ⟨l - 1, by omega⟩
    refine ⟨Y, stop l q Y h (Or.inr ⟨?_, ?_⟩), h, XdF_rf⟩
    · cases e : sgB f t (tS f t q.2.1) 43 with
      | false => rfl
      | true => have := sg_lt hT0 hi e; omega
    · cases e : sgB f t (tS f t q.2.1) 45 with
      | false => rfl
      | true => have := sg_lt hT0 hi e; omega
  | succ n ih =>
    intro l q Y hn hl h hi hc
    obtain ⟨l, rfl⟩ : ∃ k, l = k + 1 := ⟨l - 1, by omega⟩
    by_cases q0 : q.1 = 0
    · have es43 : F_X12_isSign fu 0 43 (mmb Y N) = _ := isS_m (w := 43) h q0 (by omega)
      have es45 : F_X12_isSign fu 0 45 (mmb Y N) = _ := isS_m (w := 45) h q0 (by omega)
      have go : ∀ w, jSum f t q.2.1 = some w → q.2.1 < T → (∀ M, (if sgB f t (tS f t q.2.1) 43 = true then F_X12_emit fu 0 4 0 M else F_X12_emit fu 0 5 0 M) = F_X12_emit fu 0 (i3 w) 0 M) → ∃ Y', J_X12_sums_23 fu F (L_X12_sums_5 fu F l) 0 dd (mmb Y N) = some (mmb Y' N) ∧ MdS f t T (pLoop (jSum f t) r (n + 1) q) Y' N ∧ XdF Y Y' := fun w hj hlt hw => by
        rw [pLoop_j q0 hj]
        obtain ⟨Y2, Y3, r1, r2, r3, r4⟩ := itr_m (fu := fu) (w := w) (x := w) hr hB hT h q0 hlt hc (by omega)
        obtain ⟨b1, b2⟩ := pEm_b (x := w) hB hlt hc
        obtain ⟨z1, z2, z3⟩ := hB (q.2.1 + 1) q.2.2 0 hlt (by omega)
        obtain ⟨Y', s1, s2, s3⟩ := ih l (pEm (r (q.2.1 + 1) q.2.2) w) Y3 (by show T ≤ (r (q.2.1 + 1) q.2.2).2.1 + n; omega) (by omega) r3 b1 b2
        refine ⟨Y', ?_, s2, XdF_tr r4 s3⟩
        have hw2 := hw (mmb Y2 N)
        unfold J_X12_sums_23
        rw [es43]
        simp only [Option.bind_some]
        rw [ps_7 h, r1]
        simp only [Option.bind_some]
        cases e : sgB f t (tS f t q.2.1) 43 with
        | true =>
          rw [e, if_pos rfl] at hw2
          rw [if_neg (show ¬ bz true = 0 from by decide), hw2, r2]
          simp only [Option.bind_some]
          exact s1
        | false =>
          rw [e, if_neg (by decide)] at hw2
          rw [if_pos (show bz false = 0 from rfl), hw2, r2]
          simp only [Option.bind_some]
          exact s1
      cases e : sgB f t (tS f t q.2.1) 43 with
      | true =>
        have hj : jSum f t q.2.1 = some 4 := by unfold jSum; rw [e, if_pos rfl]
        obtain ⟨Y', g1, g2, g3⟩ := go 4 hj (sg_lt hT0 hi e) (fun M => by rw [e, if_pos rfl]; rfl)
        refine ⟨Y', ?_, g2, g3⟩
        conv => lhs; unfold L_X12_sums_5
        rw [es43, e]
        simp only [Option.bind_some]
        rw [if_pos (show ¬ bz true = 0 from by decide)]
        exact g1
      | false =>
        cases e2 : sgB f t (tS f t q.2.1) 45 with
        | true =>
          have hj : jSum f t q.2.1 = some 5 := by unfold jSum; rw [e, if_neg (by decide), e2, if_pos rfl]
          obtain ⟨Y', g1, g2, g3⟩ := go 5 hj (sg_lt hT0 hi e2) (fun M => by rw [e, if_neg (by decide)]; rfl)
          refine ⟨Y', ?_, g2, g3⟩
          conv => lhs; unfold L_X12_sums_5
          rw [es43, e]
          simp only [Option.bind_some]
          rw [if_neg (show ¬ ¬ bz false = 0 from fun z => z rfl), es45, e2]
          simp only [Option.bind_some]
          rw [if_neg (show ¬ bz true = 0 from by decide)]
          exact g1
        | false =>
          have hnn : jSum f t q.2.1 = none := by unfold jSum; rw [e, if_neg (by decide), e2, if_neg (by decide)]
          rw [pLoop_n q0 hnn]
          exact ⟨Y, stop l q Y h (Or.inr ⟨e, e2⟩), h, XdF_rf⟩
    · rw [pLoop_f q0]
      exact ⟨Y, stop l q Y h (Or.inl q0), h, XdF_rf⟩
theorem MdR_sum (hf : 1100 < fu) (hT0 : tS f t T = t) (hr : MdR f t T N F r dd) (hB : pB T r) (hT : T ≤ 1000) : MdR f t T N (F_X12_sums fu F) (pSum f t r) dd := by
  intro i c Y hi hc h
  have hr2 := MdR_pro hf hT0 hr hB hT
  have hB2 := pB_pro hT0 hB
  obtain ⟨Y1, r1, r2, r3⟩ := hr2 i c Y hi hc h
  obtain ⟨z1, z2, z3⟩ := hB2 i c 0 hi (by omega)
  obtain ⟨Y', s1, s2, s3⟩ := t_sumL (fu := fu) hT0 hr2 hB2 hT 1000 fu (pPro f t r i c) Y1 (by omega) (by omega) r2 z2 (by omega)
  refine ⟨Y', ?_, s2, XdF_tr r3 s3⟩
  unfold F_X12_sums
  rw [r1]
  simp only [Option.bind_some]
  exact s1
theorem MdR_tst (hf : 1100 < fu) (hT0 : tS f t T = t) (hr : MdR f t T N F r dd) (hB : pB T r) (hT : T ≤ 1000) : MdR f t T N (F_X12_test fu F) (pTst f t r) dd := by
  intro i c Y hi hc h
  have hr2 := MdR_sum hf hT0 hr hB hT
  have hB2 := pB_sum hT0 hB
  obtain ⟨Y1, r1, r2, r3⟩ := hr2 i c Y hi hc h
  obtain ⟨z1, z2, z3⟩ := hB2 i c 0 hi (by omega)
  unfold pTst
  generalize hq : pSum f t r i c = q at r1 r2 z1 z2 z3 ⊢
  by_cases q0 : q.1 = 0
  · have es60 : F_X12_isSign fu 0 60 (mmb Y1 N) = _ := isS_m (w := 60) r2 q0 (by omega)
    have eh60 : F_X12_hasSign fu 0 60 (mmb Y1 N) = _ := t_hasSign (w := 60) r2 q0 (by omega)
    have eh61 : F_X12_hasSign fu 0 61 (mmb Y1 N) = _ := t_hasSign (w := 61) r2 q0 (by omega)
    cases e : sgB f t (tS f t q.2.1) 60 with
    | true =>
      have hj : jTst f t q.2.1 = some 7 := by unfold jTst; rw [e, if_pos rfl]
      obtain ⟨Y2, Y3, u1, u2, u3, u4⟩ := itr_m (fu := fu) (w := 7) (x := 7) hr2 hB2 hT r2 q0 (sg_lt hT0 z2 e) (by omega) (by omega)
      rw [if_pos q0, hj]
      refine ⟨Y3, ?_, u3, XdF_tr r3 u4⟩
      unfold F_X12_test
      rw [r1]
      simp only [Option.bind_some]
      rw [es60, e]
      simp only [Option.bind_some]
      rw [eh60, e]
      simp only [Option.bind_some]
      rw [if_pos (show ¬ bz true = 0 from by decide), if_pos trivial]
      unfold J_X12_test_30
      rw [u1]
      simp only [Option.bind_some]
      rw [if_neg (show ¬ bz true = 0 from by decide), show F_X12_emit fu 0 7 0 (mmb Y2 N) = _ from u2]
      rfl
    | false =>
      cases e2 : sgB f t (tS f t q.2.1) 61 with
      | true =>
        have hj : jTst f t q.2.1 = some 8 := by unfold jTst; rw [e, if_neg (by decide), e2, if_pos rfl]
        obtain ⟨Y2, Y3, u1, u2, u3, u4⟩ := itr_m (fu := fu) (w := 8) (x := 8) hr2 hB2 hT r2 q0 (sg_lt hT0 z2 e2) (by omega) (by omega)
        rw [if_pos q0, hj]
        refine ⟨Y3, ?_, u3, XdF_tr r3 u4⟩
        unfold F_X12_test
        rw [r1]
        simp only [Option.bind_some]
        rw [es60, e]
        simp only [Option.bind_some]
        rw [eh60, e]
        simp only [Option.bind_some]
        rw [if_neg (show ¬ ¬ bz false = 0 from fun z => z rfl), if_neg (show ¬ (false = true) from by decide), eh61, e2]
        simp only [Option.bind_some]
        rw [if_neg (show ¬ bz true = 0 from by decide), if_pos trivial]
        unfold J_X12_test_30
        rw [u1]
        simp only [Option.bind_some]
        rw [if_pos (show bz false = 0 from rfl), show F_X12_emit fu 0 8 0 (mmb Y2 N) = _ from u2]
        rfl
      | false =>
        have hj : jTst f t q.2.1 = none := by unfold jTst; rw [e, if_neg (by decide), e2, if_neg (by decide)]
        rw [if_pos q0, hj]
        refine ⟨Y1, ?_, r2, r3⟩
        unfold F_X12_test
        rw [r1]
        simp only [Option.bind_some]
        rw [es60, e]
        simp only [Option.bind_some]
        rw [eh60, e]
        simp only [Option.bind_some]
        rw [if_neg (show ¬ ¬ bz false = 0 from fun z => z rfl), if_neg (show ¬ (false = true) from by decide), eh61, e2]
        rfl
  · rw [if_neg q0]
    refine ⟨Y1, ?_, r2, r3⟩
    unfold F_X12_test
    rw [r1]
    simp only [Option.bind_some]
    rw [t_isSignF r2.1 (MdS_v r2 q0)]
    simp only [Option.bind_some]
    rw [t_hasSignF r2 q0]
    simp only [Option.bind_some]
    rw [if_neg (fun z => z trivial), t_hasSignF r2 q0]
    rfl
end
