/-! ===== a FILE's line, read: the reference, together ===== -/
section
variable {M M' M1 N N' N1 : xM} {X Y Y' Y1 : xT} {f : Nat → Nat} {fu l t T n i j k d s x a b w F e m g lo hi p : Nat} {c ls : List Nat} {q : Nat × Nat} {u v y0 : Int32} {nm : Nat → List Nat} {S S' : plS} {y : Int64} {C : xC}
theorem sL_mmb : sL (mmb Y N) 21 4 k y = mmb Y (sL N 21 4 k y) := rfl
theorem j58_F (h : LnX f t T q Y N) (h0 : q.1 ≠ 0) : J_X12_readFile_58 fu 0 u (mmb Y N) = some (mmb Y N) := by
  unfold J_X12_readFile_58
  rw [if_neg (by rw [x8_le h]; exact h0)]
theorem t_j58 (h : LnX f t T (0, i) Y N) (hP : PlX S Y N) (hF5 : S.1 0 3 < 5) (c1 : tkT f t (tS f t i) = 1) (hi : i ≤ T) (hT0 : tS f t T = t) (ht : t ≤ 1000) (hf : 1100 < fu) :
    ∃ Y' N', J_X12_readFile_58 fu 0 (i3 (S.1 0 3)) (mmb Y N) = some (mmb Y' N') ∧ LnX f t T ((plKind f t S (tkL f t (tS f t i)) (i + 1)).1, (plKind f t S (tkL f t (tS f t i)) (i + 1)).2.1) Y' N' ∧ PxF Y Y' ∧ PnN N N' ∧ ((plKind f t S (tkL f t (tS f t i)) (i + 1)).1 = 0 → PlX (plKind f t S (tkL f t (tS f t i)) (i + 1)).2.2 Y' N') := by
  have hL := h.1.1
  have h7 : Y 0 7 = i3 i := h.1.2.2.2.2.2.2.2.2.2.1
  have hTt := h.1.2.2.2.2.1
  have hlt := tok_lt hT0 hi (show tkT f t (tS f t i) ≠ 0 by rw [c1]; decide)
  obtain ⟨q1, q2, q3, q4, q5, q6, q7, q8, q9⟩ := tk_w c1
  have hgl : gL N 21 2 i = Int64.ofNat (enc 37 (tkL f t (tS f t i))) := ((AtX_L h.1 (by show tkT f t (tS f t i) ≠ 0; rw [c1]; decide)).2).trans q6
  have hN1 : PnN N (sL N 21 4 (5 + S.1 0 3) (Int64.ofNat (enc 37 (tkL f t (tS f t i))))) := PnN_sL (by omega)
  obtain ⟨r1, r2⟩ := LnX_nx (LnX_N h hN1) hlt
  have hP1 : PlX S (up Y 0 7 (i3 (i + 1))) (sL N 21 4 (5 + S.1 0 3) (Int64.ofNat (enc 37 (tkL f t (tS f t i))))) := by
    obtain ⟨p1, p2, p3, p4, p5⟩ := PlX_x hP r2
    refine ⟨p1, p2, fun k hk => ⟨(p3 k hk).1, (p3 k hk).2.1, ?_⟩, p4, p5⟩
    rw [gL_sLo, if_neg (by omega)]
    exact (p3 k hk).2.2
  obtain ⟨Y', s1, s2, s3, s4⟩ := t_kind (fu := fu) (ls := tkL f t (tS f t i)) r1 hP1 hF5 (by rw [gL_sLo, if_pos ⟨rfl, rfl, rfl⟩]) hlt hT0 ht hf
  refine ⟨Y', _, ?_, s2, PxF_tr (PxF_xn r2) s3, hN1, s4⟩
  unfold J_X12_readFile_58
  rw [if_pos (by rw [x8_le h]), gR_mmb, l12_0_6 hL]
  simp only [Option.bind_some]
  rw [gN_mmb, n21_2 hL, m_0, h7, xin_i3 (show i < 1002 by omega) (by omega), gd_t, gR_mmb, l12_0_13 hL]
  simp only [Option.bind_some]
  rw [gN_mmb, n21_4 hL, show (5 : Int32) + i3 (S.1 0 3) = i3 (5 + S.1 0 3) from i3_add 5 (S.1 0 3), xin_i3 (show 5 + S.1 0 3 < 10 by omega) (by omega), gd_t, xi_i3 (by omega), xi_i3 (by omega), gL_mmb, hgl, sL_mmb, x_7 (LnX_N h hN1)]
  exact s1
theorem t_file (h : LnX f t T (0, i) Y N) (hP : PlX S Y N) (hO : PlOk S) (hi : i < T) (hT0 : tS f t T = t) (ht : t ≤ 1000) (hf : 1100 < fu) :
    ∃ Y' N', F_X12_readFile fu 0 (mmb Y N) = some (mmb Y' N') ∧ LnX f t T ((plFile f t S i).1, (plFile f t S i).2.1) Y' N' ∧ PxF Y Y' ∧ PnN N N' ∧ ((plFile f t S i).1 = 0 → PlX (plFile f t S i).2.2 Y' N') := by
  have hL := h.1.1
  have hF5 := hO.2.2.2.1
  unfold F_X12_readFile plFile
  rw [gr10 hL]
  simp only [Option.bind_some]
  rw [show (23 : Int32) = i3 23 from rfl, gd90 hL (by omega), xi_i3 (by omega), m_90, hP.1 3 (by omega)]
  by_cases c5 : S.1 0 3 < 5
  · rw [if_pos (show ¬ i3 (S.1 0 3) = 5 from fun z => by have := (i3_eq (b := 5) (by omega) (by omega)).mp z; omega), if_pos c5, x_7 h]
    obtain ⟨r1, r2⟩ := LnX_nx h hi
    have hP1 := PlX_x hP r2
    have hbad : ∀ m, 0 < m → m ≤ 5 → ∃ Y', ((F_X12_wrong fu 0 (i3 m) (mmb (up Y 0 7 (i3 (i + 1))) N)).bind fun p_2 => J_X12_readFile_58 fu 0 (i3 (S.1 0 3)) p_2) = some (mmb Y' N) ∧ LnX f t T (m + 16 * tS f t (i + 1), i + 1) Y' N ∧ XnF Y Y' := fun m h0 h5 => by
      obtain ⟨Y', s1, s2, s3⟩ := LnX_fail (fu := fu) (k := m) r1 h0 h5 ht
      refine ⟨Y', ?_, s2, XnF_tr r2 s3⟩
      rw [s1]
      simp only [Option.bind_some]
      exact j58_F s2 (by show ¬ (m + 16 * tS f t (i + 1) = 0); omega)
    rw [t_isName (fu := fu) r1 hf]
    simp only [Option.bind_some]
    cases e : isNm f t (tS f t (i + 1)) with
    | false =>
      rw [if_neg (show ¬ ¬ bz false = 0 from fun z => z rfl), if_neg (show ¬ (false = true) by decide)]
      obtain ⟨Y', s1, s2, s3⟩ := hbad 1 (by omega) (by omega)
      exact ⟨Y', N, s1, s2, PxF_xn s3, PnN_rf, fun z => absurd z (show ¬ (1 + 16 * tS f t (i + 1) = 0) by omega)⟩
    | true =>
      have c1 : tkT f t (tS f t (i + 1)) = 1 := by
        have e' := e
        unfold isNm at e'
        rw [Bool.and_eq_true, decide_eq_true_eq] at e'
        exact e'.1
      have hna := t_named (fu := fu) (b := 5) (nm := S.2.1) (F := S.1 0 3) r1 (by omega) hF5 (fun k hk => ⟨(hO.2.2.2.2.2.2.2.1 k hk).2.2.2.1, (hO.2.2.2.2.2.2.2.1 k hk).2.2.2.2, (hP1.2.2.1 k hk).2.2⟩) hO.2.2.2.2.2.2.2.2.1 c1 hf
      rw [if_pos (show ¬ bz true = 0 from by decide), if_pos rfl, show F_X12_nameAt fu 0 5 (i3 (S.1 0 3)) (mmb (up Y 0 7 (i3 (i + 1))) N) = _ from hna]
      simp only [Option.bind_some]
      cases eo : ixO S.2.1 (S.1 0 3) (tkL f t (tS f t (i + 1))) with
      | some k0 =>
        have hk0 := (lst_some.mp eo).1
        rw [if_neg (show ¬ ixN (some k0) < 0 from fun z => (i3_nl (a := k0) (by omega)).mp z)]
        obtain ⟨Y', s1, s2, s3⟩ := hbad 3 (by omega) (by omega)
        exact ⟨Y', N, s1, s2, PxF_xn s3, PnN_rf, fun z => absurd z (show ¬ (3 + 16 * tS f t (i + 1) = 0) by omega)⟩
      | none =>
        rw [if_pos (show ixN none < 0 from by decide)]
        obtain ⟨Y', N', s1, s2, s3, s4, s5⟩ := t_j58 (fu := fu) r1 hP1 c5 c1 hi hT0 ht hf
        exact ⟨Y', N', s1, s2, PxF_tr (PxF_xn r2) s3, s4, s5⟩
  · rw [if_neg (show ¬ ¬ i3 (S.1 0 3) = 5 from fun z => z (by rw [show S.1 0 3 = 5 by omega]; rfl)), if_neg c5]
    obtain ⟨Y', s1, s2, s3⟩ := LnX_fail (fu := fu) (k := 5) h (by omega) (by omega) ht
    refine ⟨Y', N, ?_, s2, PxF_xn s3, PnN_rf, fun z => absurd z (show ¬ (5 + 16 * tS f t i = 0) by omega)⟩
    rw [show F_X12_wrong fu 0 5 (mmb Y N) = _ from s1]
    rfl
end
