/-! ===== the rule's E, read: the reference, whole and parts ===== -/
section
variable {M M' M1 M2 N : xM} {X Y Y' Y1 Z : xT} {f : Nat → Nat} {fu l t T n i j k d s x a b w : Nat} {c : List Nat} {q : Nat × Nat × List Nat} {r : Nat → List Nat → Nat × Nat × List Nat} {jn : Nat → Option Nat} {u v dd x2 x3 : Int32} {F : Nat → Int32 → xM → Option xM}
theorem tkE_le (h : s ≤ t) : tkE f t s ≤ t := by
  unfold tkE
  by_cases c : s < t
  · rw [if_pos c]
    split
    · exact (rnE_b h).2
    · split
      · exact (rnE_b h).2
      · omega
  · rw [if_neg c]; exact h
theorem tS_le : ∀ i, tS f t i ≤ t
  | 0 => (rnE_b (Nat.zero_le _)).2
  | i + 1 => (rnE_b (tkE_le (tS_le i))).2
theorem t_allL (hT0 : tS f t T = t) (hr : MdR f t T N (F_X12_test fu F) r dd) (hB : pB T r) (hT : T ≤ 1000) : ∀ n l q Y, T ≤ q.2.1 + n → n < l → MdS f t T q Y N → q.2.1 ≤ T → q.2.2.length ≤ q.2.1 →
    ∃ Y', L_X12_whole_5 fu F l 0 dd (mmb Y N) = some (mmb Y' N) ∧ MdS f t T (pLoop (jAll f t) r n q) Y' N ∧ XdF Y Y' := by
  intro n
  have stop : ∀ l q Y, MdS f t T q Y N → (q.1 ≠ 0 ∨ tkK f t (tS f t q.2.1) ≠ some 17 ∧ tkK f t (tS f t q.2.1) ≠ some 18) → L_X12_whole_5 fu F (l + 1) 0 dd (mmb Y N) = some (mmb Y N) := fun l q Y h hs => by
    conv => lhs; unfold L_X12_whole_5
    by_cases q0 : q.1 = 0
    · obtain ⟨e1, e2⟩ := hs.resolve_left (fun z => z q0)
      rw [show F_X12_isWord fu 0 17 (mmb Y N) = _ from isW_m (w := 17) h q0 (by omega), decide_eq_false e1]
      simp only [Option.bind_some]
      rw [if_neg (show ¬ ¬ bz false = 0 from fun z => z rfl), show F_X12_isWord fu 0 18 (mmb Y N) = _ from isW_m (w := 18) h q0 (by omega), decide_eq_false e2]
      rfl
    · rw [t_isWordF h.1 (MdS_v h q0)]
      simp only [Option.bind_some]
      rw [if_neg (fun z => z trivial), t_isWordF h.1 (MdS_v h q0)]
      rfl
  induction n with
  | zero =>
    intro l q Y hn hl h hi hc
    obtain ⟨l, rfl⟩ : ∃ k, l = k + 1 := ⟨l - 1, by omega⟩
    exact ⟨Y, stop l q Y h (Or.inr ⟨fun e => by have := kw_lt hT0 hi e; omega, fun e => by have := kw_lt hT0 hi e; omega⟩), h, XdF_rf⟩
  | succ n ih =>
    intro l q Y hn hl h hi hc
    obtain ⟨l, rfl⟩ : ∃ k, l = k + 1 := ⟨l - 1, by omega⟩
    by_cases q0 : q.1 = 0
    · have es17 : F_X12_isWord fu 0 17 (mmb Y N) = _ := isW_m (w := 17) h q0 (by omega)
      have es18 : F_X12_isWord fu 0 18 (mmb Y N) = _ := isW_m (w := 18) h q0 (by omega)
      have go : ∀ w, jAll f t q.2.1 = some w → q.2.1 < T → (∀ M, (if decide (tkK f t (tS f t q.2.1) = some 17) = true then F_X12_emit fu 0 9 0 M else F_X12_emit fu 0 10 0 M) = F_X12_emit fu 0 (i3 w) 0 M) → ∃ Y', J_X12_whole_23 fu F (L_X12_whole_5 fu F l) 0 dd (mmb Y N) = some (mmb Y' N) ∧ MdS f t T (pLoop (jAll f t) r (n + 1) q) Y' N ∧ XdF Y Y' := fun w hj hlt hw => by
        rw [pLoop_j q0 hj]
        obtain ⟨Y2, Y3, r1, r2, r3, r4⟩ := itr_m (fu := fu) (w := w) (x := w) hr hB hT h q0 hlt hc (by omega)
        obtain ⟨b1, b2⟩ := pEm_b (x := w) hB hlt hc
        obtain ⟨z1, z2, z3⟩ := hB (q.2.1 + 1) q.2.2 0 hlt (by omega)
        obtain ⟨Y', s1, s2, s3⟩ := ih l (pEm (r (q.2.1 + 1) q.2.2) w) Y3 (by show T ≤ (r (q.2.1 + 1) q.2.2).2.1 + n; omega) (by omega) r3 b1 b2
        refine ⟨Y', ?_, s2, XdF_tr r4 s3⟩
        have hw2 := hw (mmb Y2 N)
        unfold J_X12_whole_23
        rw [es17]
        simp only [Option.bind_some]
        rw [ps_7 h, r1]
        simp only [Option.bind_some]
        cases e : decide (tkK f t (tS f t q.2.1) = some 17) with
        | true =>
          rw [e, if_pos rfl] at hw2
          rw [if_neg (show ¬ bz true = 0 from by decide), hw2, r2]
          simp only [Option.bind_some]
          exact s1
        | false =>
          rw [e, if_neg (by decide)] at hw2
          rw [if_pos (show bz false = 0 from rfl), hw2, r2]
          simp only [Option.bind_some]
          exact s1
      by_cases e : tkK f t (tS f t q.2.1) = some 17
      · have hj : jAll f t q.2.1 = some 9 := by unfold jAll; rw [if_pos e]
        obtain ⟨Y', g1, g2, g3⟩ := go 9 hj (kw_lt hT0 hi e) (fun M => by rw [decide_eq_true e, if_pos rfl]; rfl)
        refine ⟨Y', ?_, g2, g3⟩
        conv => lhs; unfold L_X12_whole_5
        rw [es17, decide_eq_true e]
        simp only [Option.bind_some]
        rw [if_pos (show ¬ bz true = 0 from by decide)]
        exact g1
      · by_cases e2 : tkK f t (tS f t q.2.1) = some 18
        · have hj : jAll f t q.2.1 = some 10 := by unfold jAll; rw [if_neg e, if_pos e2]
          obtain ⟨Y', g1, g2, g3⟩ := go 10 hj (kw_lt hT0 hi e2) (fun M => by rw [decide_eq_false e, if_neg (by decide)]; rfl)
          refine ⟨Y', ?_, g2, g3⟩
          conv => lhs; unfold L_X12_whole_5
          rw [es17, decide_eq_false e]
          simp only [Option.bind_some]
          rw [if_neg (show ¬ ¬ bz false = 0 from fun z => z rfl), es18, decide_eq_true e2]
          simp only [Option.bind_some]
          rw [if_neg (show ¬ bz true = 0 from by decide)]
          exact g1
        · have hnn : jAll f t q.2.1 = none := by unfold jAll; rw [if_neg e, if_neg e2]
          rw [pLoop_n q0 hnn]
          exact ⟨Y, stop l q Y h (Or.inr ⟨e, e2⟩), h, XdF_rf⟩
    · rw [pLoop_f q0]
      exact ⟨Y, stop l q Y h (Or.inl q0), h, XdF_rf⟩
theorem MdR_all (hf : 1100 < fu) (hT0 : tS f t T = t) (hr : MdR f t T N F r dd) (hB : pB T r) (hT : T ≤ 1000) : MdR f t T N (F_X12_whole fu F) (pAll f t r) dd := by
  intro i c Y hi hc h
  have hr2 := MdR_tst hf hT0 hr hB hT
  have hB2 := pB_tst hT0 hB
  obtain ⟨Y1, r1, r2, r3⟩ := hr2 i c Y hi hc h
  obtain ⟨z1, z2, z3⟩ := hB2 i c 0 hi (by omega)
  obtain ⟨Y', s1, s2, s3⟩ := t_allL (fu := fu) hT0 hr2 hB2 hT 1000 fu (pTst f t r i c) Y1 (by omega) (by omega) r2 z2 (by omega)
  refine ⟨Y', ?_, s2, XdF_tr r3 s3⟩
  unfold F_X12_whole
  rw [r1]
  simp only [Option.bind_some]
  exact s1
/-- a word had: on -/
theorem t_hasWord (h : MdS f t T q Y N) (h0 : q.1 = 0) (hw : w < 23) : F_X12_hasWord fu 0 (i3 w) (mmb Y N) = some (bz (decide (tkK f t (tS f t q.2.1) = some w)), mmb (if tkK f t (tS f t q.2.1) = some w then up Y 0 7 (i3 (q.2.1 + 1)) else Y) N) := by
  have h7 := h.1.2.2.2.2.2.2.2.2.2.1
  have es := isW_m (fu := fu) h h0 hw
  unfold F_X12_hasWord
  rw [es]
  simp only [Option.bind_some, bz_0]
  by_cases e : tkK f t (tS f t q.2.1) = some w
  · rw [decide_eq_true e, if_neg (by decide), m_0, h7, i3_add1, p_0, gd_bz, if_pos e]
  · rw [decide_eq_false e, if_pos rfl, m_0, p_0, gd_bz, if_neg e, Int32.add_zero, up_self]
/-- a fault, told -/
theorem MdS_fail (h : MdS f t T (0, i, c) Y N) (hk : 0 < k) (hk2 : k ≤ 5) (ht : t ≤ 1000) : ∃ Y', F_X12_wrong fu 0 (i3 k) (mmb Y N) = some (mmb Y' N) ∧ MdS f t T (k + 16 * tS f t i, i, c) Y' N ∧ XdF Y Y' := by
  have hle : tS f t i ≤ t := tS_le i
  obtain ⟨h1, h2, h3, h4⟩ := h
  refine ⟨_, t_wrong h1 rfl, ⟨AtX_cg h1 (fun k => up_ne (by omega)) (fun k => up_ne (by omega)) ((up_ne (by omega)).trans h1.2.2.2.2.2.2.2.2.2.1) h1.2.2.2.2.2.2.2.2.2.2.1 up_eq, ?_, (up_ne (by omega)).trans h3, fun k hk => (up_ne (by omega)).trans (h4 k hk)⟩, fun j k a b => up_ne (by omega)⟩
  show k + 16 * tS f t i < 20000
  omega
end
