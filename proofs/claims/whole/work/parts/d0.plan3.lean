/-! ===== a FILE's line, read: the class, together ===== -/
section
variable {M M' M1 M5 N : xM} {X Y Y' Y1 : xT} {f : Nat → Nat} {fu l t T n i j k d s x a b w F e m g lo hi p : Nat} {c ls : List Nat} {q : Nat × Nat} {u v y0 : Int32} {nm : Nat → List Nat} {S S' : plS} {y : Int64} {C : xC}
theorem pl_bad (h : LnC f t (0, i) M) (hk : 0 < k) : ∃ M', ((F_X10_fail fu 0 (i3 k) M).bind fun p_3 => gd (xbool p_3.1) (some (p_3.1, p_3.2))) = some (bz (decide (k + 16 * tS f t i = 0)), M') ∧ LnC f t (k + 16 * tS f t i, i) M' ∧ PnF a M M' := by
  obtain ⟨M', r1, r2, r3⟩ := LnC_fail (fu := fu) (k := k) h hk
  refine ⟨M', ?_, r2, PnF_ny r3⟩
  rw [r1]
  simp only [Option.bind_some]
  rw [xb_f, gd_t, decide_eq_false (show ¬ (k + 16 * tS f t i = 0) by omega)]
  rfl
theorem e_file (h : LnC f t (0, i) M) (hP : PlC a S M) (hO : PlOk S) (ha : a < 2) (hf : 1100 < fu) :
    ∃ M', F_X7_readFile fu a (some 0) M = some (bz (decide ((plFile f t S i).1 = 0)), M') ∧ LnC f t ((plFile f t S i).1, (plFile f t S i).2.1) M' ∧ PnF a M M' ∧ ((plFile f t S i).1 = 0 → PlC a (plFile f t S i).2.2 M') := by
  have hF5 := hO.2.2.2.1
  unfold F_X7_readFile plFile
  simp only [Option.bind_some]
  rw [hP.1 3 (by omega)]
  by_cases c5 : S.1 0 3 < 5
  · rw [if_pos (show i3 (S.1 0 3) < 5 from (i3_lt (b := 5) (by omega) (by omega)).mpr c5), if_pos c5]
    obtain ⟨M1, r1, r2, r3⟩ := LnC_nx h hf
    have hA1 : AtC f t (tS f t (i + 1)) M1 := r2.2.1 rfl
    have hP1 := PlC_ny hP r3
    rw [r1]
    simp only [Option.bind_some]
    rw [e_isName (fu := fu) hA1]
    simp only [Option.bind_some]
    cases e : isNm f t (tS f t (i + 1)) with
    | false =>
      rw [if_neg (show ¬ ¬ bz false = 0 from fun z => z rfl), if_neg (show ¬ (false = true) by decide)]
      obtain ⟨M', b1, b2, b3⟩ := pl_bad (fu := fu) (k := 1) (a := a) r2 (by omega)
      exact ⟨M', b1, b2, PnF_tr (PnF_ny r3) b3, fun z => absurd z (show ¬ (1 + 16 * tS f t (i + 1) = 0) by omega)⟩
    | true =>
      have c1 : tkT f t (tS f t (i + 1)) = 1 := by
        have e' := e
        unfold isNm at e'
        rw [Bool.and_eq_true, decide_eq_true_eq] at e'
        exact e'.1
      obtain ⟨q1, q2, q3, q4, q5, q6, q7, q8, q9⟩ := tk_w c1
      have eL : gL M1 10 0 6 = Int64.ofNat (enc 32 (tkL f t (tS f t (i + 1)))) := (hA1.2.2.2.2.2.2.2.2 c1).trans q7
      have enm := e_named (fu := fu) (ls := tkL f t (tS f t (i + 1))) (nm := S.2.1) (F := S.1 0 3) r2.1.1 ha hF5 (hP1.1 3 (by omega)) (fun k hk => ⟨(hO.2.2.2.2.2.2.2.1 k hk).2.2.2.1, (hO.2.2.2.2.2.2.2.1 k hk).2.2.2.2, (hP1.2.2.1 k hk).2.2⟩) q8 q9 hf
      rw [if_pos (show ¬ bz true = 0 from by decide), if_pos rfl, eL, enm]
      simp only [Option.bind_some]
      cases eo : ixO S.2.1 (S.1 0 3) (tkL f t (tS f t (i + 1))) with
      | some k0 =>
        have hk0 := (lst_some.mp eo).1
        rw [if_neg (show ¬ ixN (some k0) < 0 from fun z => (i3_nl (a := k0) (by omega)).mp z)]
        obtain ⟨M', b1, b2, b3⟩ := pl_bad (fu := fu) (k := 3) (a := a) r2 (by omega)
        exact ⟨M', b1, b2, PnF_tr (PnF_ny r3) b3, fun z => absurd z (show ¬ (3 + 16 * tS f t (i + 1) = 0) by omega)⟩
      | none =>
        rw [if_pos (show ixN none < 0 from by decide), eL]
        obtain ⟨M2, s1, s2, s3⟩ := LnC_nx r2 hf
        have hA2 : AtC f t (tS f t (i + 2)) M2 := s2.2.1 rfl
        have hP2 := PlC_ny hP1 s3
        rw [s1]
        simp only [Option.bind_some]
        unfold plKind
        rcases kd_is hA2 with ⟨k, e1, e2, e3⟩ | ⟨e1, e2⟩
        · rw [e1, e3, if_neg (show ¬ i3 (k + 12) < 12 from fun z => by have := (i3_lt (b := 12) (by omega) (by omega)).mp z; omega), if_pos (show i3 (k + 12) ≤ 15 from (i3_le (b := 15) (by omega) (by omega)).mpr (by omega))]
          obtain ⟨M3, u1, u2, u3⟩ := LnC_nx s2 hf
          have hA3 : AtC f t (tS f t (i + 2 + 1)) M3 := u2.2.1 rfl
          have hP3 := PlC_ny hP2 u3
          have e6 : i3 (k + 12) - 12 = i3 k := by rw [show (i3 (k + 12) - 12 : Int32) = i3 (k + 12 - 12) from i3_sub (b := 12) (by omega)]; rfl
          rw [u1]
          simp only [Option.bind_some]
          by_cases c4 : tkK f t (tS f t (i + 2 + 1)) = some 4
          · rw [if_pos (show gI M3 10 0 3 = 4 from (wd_is (k := 4) hA3 (by omega)).mpr c4)]
            simp only [if_pos c4]
            obtain ⟨M4, v1, v2, v3⟩ := LnC_nx u2 hf
            have hP4 := PlC_ny hP3 v3
            rw [v1]
            simp only [Option.bind_some]
            obtain ⟨M5, w1, w2, w3⟩ := e_takeNu (fu := fu) (lo := 1) (hi := 4) v2 hf (by omega) (by omega)
            have hP5 := PlC_ny hP4 w3
            have w2' : LnC f t ((tkNu f t (i + 2 + 2) 1 4).1, (tkNu f t (i + 2 + 2) 1 4).2.1) M5 := w2
            have hv := tkNu_le (f := f) (t := t) (i := i + 2 + 2) (k := 1) (d := 4)
            rw [show F_X10_takeNumber fu 0 1 4 M4 = some (if (tkNu f t (i + 2 + 2) 1 4).1 = 0 then i3 (tkNu f t (i + 2 + 2) 1 4).2.2 else -1, M5) from w1]
            simp only [Option.bind_some]
            have hFr : PnF a M M5 := PnF_tr (PnF_ny r3) (PnF_tr (PnF_ny s3) (PnF_tr (PnF_ny u3) (PnF_tr (PnF_ny v3) (PnF_ny w3))))
            generalize tkNu f t (i + 2 + 2) 1 4 = p at w2' hv ⊢
            by_cases p0 : p.1 = 0
            · rw [if_pos p0, if_pos (show (0 : Int32) ≤ i3 p.2.2 from ge0 (by omega))]
              refine ⟨flM a (S.1 0 3) M5 (Int64.ofNat (enc 32 (tkL f t (tS f t (i + 1))))) k p.2.2, ?_, LnC_fl w2', PnF_tr hFr flM_F, fun _ => PlC_fl hP5⟩
              rw [decide_eq_true p0]
              exact fl_w w2'.1.1 ha (hP5.1 3 (by omega)) c5 e6 rfl
            · rw [if_neg p0, if_neg (show ¬ (0 : Int32) ≤ -1 by decide), xb_f, gd_t]
              refine ⟨M5, ?_, w2', hFr, fun z => absurd z p0⟩
              rw [decide_eq_false p0]
              rfl
          · rw [if_neg (show ¬ gI M3 10 0 3 = 4 from fun z => c4 ((wd_is (k := 4) hA3 (by omega)).mp z))]
            simp only [if_neg c4]
            obtain ⟨M', b1, b2, b3⟩ := pl_bad (fu := fu) (k := 1) (a := a) u2 (by omega)
            exact ⟨M', b1, b2, PnF_tr (PnF_ny r3) (PnF_tr (PnF_ny s3) (PnF_tr (PnF_ny u3) b3)), fun z => absurd z (show ¬ (1 + 16 * tS f t (i + 2 + 1) = 0) by omega)⟩
        · rw [e1]
          obtain ⟨M', b1, b2, b3⟩ := pl_bad (fu := fu) (k := 1) (a := a) s2 (by omega)
          rcases e2 with e2 | ⟨e2, e3⟩
          · rw [if_pos e2]
            exact ⟨M', b1, b2, PnF_tr (PnF_ny r3) (PnF_tr (PnF_ny s3) b3), fun z => absurd z (show ¬ (1 + 16 * tS f t (i + 2) = 0) by omega)⟩
          · rw [if_neg e2, if_neg e3]
            exact ⟨M', b1, b2, PnF_tr (PnF_ny r3) (PnF_tr (PnF_ny s3) b3), fun z => absurd z (show ¬ (1 + 16 * tS f t (i + 2) = 0) by omega)⟩
  · rw [if_neg (show ¬ i3 (S.1 0 3) < 5 from fun z => c5 ((i3_lt (b := 5) (by omega) (by omega)).mp z)), if_neg c5]
    obtain ⟨M', b1, b2, b3⟩ := pl_bad (fu := fu) (k := 5) (a := a) h (by omega)
    exact ⟨M', b1, b2, b3, fun z => absurd z (show ¬ (5 + 16 * tS f t i = 0) by omega)⟩
end
