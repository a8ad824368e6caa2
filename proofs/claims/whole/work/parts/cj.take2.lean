/-! ===== lines, read: numbers, signs, names: more ===== -/
section
variable {M M' M1 M2 N : xM} {X Y Y' Y1 Z : xT} {f : Nat → Nat} {fu l t T n i j k d s x a b w lo hi hi' : Nat} {c : List Nat} {q : Nat × Nat} {u v dd x2 x3 : Int32} {nm : Nat → List Nat} {y : Int64}
theorem x8_le (h : LnX f t T q Y N) : (gI (mmb Y N) 12 0 8 ≤ 0) = (q.1 = 0) := by
  rw [m_0, h.1.2.2.2.2.2.2.2.2.2.2.2]
  have h2 := h.2
  exact propext ⟨fun z => by have := (i3_le (b := 0) (by omega) (by omega)).mp z; omega, fun z => by rw [z]; exact Int32.le_refl _⟩
theorem x8_0 (h : LnX f t T q Y N) : (gI (mmb Y N) 12 0 8 = 0) = (q.1 = 0) := by
  rw [m_0, h.1.2.2.2.2.2.2.2.2.2.2.2]
  have h2 := h.2
  exact propext (i3_eq (b := 0) (by omega) (by omega))
theorem x_7 (h : LnX f t T q Y N) : sI (mmb Y N) 12 0 7 (gI (mmb Y N) 12 0 7 + 1) = mmb (up Y 0 7 (i3 (q.2 + 1))) N := by
  rw [m_0, h.1.2.2.2.2.2.2.2.2.2.1, i3_add1, p_0]
theorem t_takeNu (h : LnX f t T (0, i) Y N) (hi : i ≤ T) (hT0 : tS f t T = t) (ht : t ≤ 1000) (hl : lo ≤ 1000) (hh : hi' ≤ 1000) : ∃ Y', F_X12_takeNumber fu 0 (i3 lo) (i3 hi') (mmb Y N) = some (i3 (tkNu f t i lo hi').2.2, mmb Y' N) ∧ LnX f t T ((tkNu f t i lo hi').1, (tkNu f t i lo hi').2.1) Y' N ∧ XnF Y Y' := by
  have hL := h.1.1
  have h7 : Y 0 7 = i3 i := h.1.2.2.2.2.2.2.2.2.2.1
  have hTt := h.1.2.2.2.2.1
  obtain ⟨e88', e89⟩ := AtX_88 h.1
  have e88 : Y 88 i = i3 (tkT f t (tS f t i)) := e88'
  have hT5 : tkT f t (tS f t i) ≤ 4 := tkT_le
  -- a fault
  have bad : ∀ k, 0 < k → k ≤ 5 → ∃ Y', ((F_X12_wrong fu 0 (i3 k) (mmb Y N)).bind fun p_2 => J_X12_takeNumber_70 fu 0 p_2) = some (i3 0, mmb Y' N) ∧ LnX f t T (k + 16 * tS f t i, i) Y' N ∧ XnF Y Y' := fun k hk hk5 => by
    obtain ⟨Y', r1, r2, r3⟩ := LnX_fail (fu := fu) (k := k) h hk hk5 ht
    refine ⟨Y', ?_, r2, r3⟩
    rw [r1]
    simp only [Option.bind_some]
    unfold J_X12_takeNumber_70
    rw [if_neg (by rw [x8_le r2]; show ¬ (k + 16 * tS f t i = 0); omega)]
    rfl
  unfold F_X12_takeNumber tkNu
  rw [if_neg (by rw [x8_0 h]; exact fun z => z rfl), gR_mmb, l12_0_4 hL]
  simp only [Option.bind_some, gN_mmb]
  rw [n20_88 hL, m_0, h7, xin_i3 (show i < 1002 by omega) (by omega), gd_t, xi_i3 (by omega), m_88, e88]
  by_cases c2 : tkT f t (tS f t i) = 2
  · obtain ⟨n1, n2, n3, n4⟩ := tk_n c2
    have hlt := tok_lt hT0 hi (show tkT f t (tS f t i) ≠ 0 by rw [c2]; decide)
    have hgl : gL N 21 2 i = Int64.ofNat (nuN f (tS f t i) (tkE f t (tS f t i) - tS f t i)) := ((AtX_L h.1 (by show tkT f t (tS f t i) ≠ 0; rw [c2]; decide)).2).trans n2
    rw [if_pos (show i3 (tkT f t (tS f t i)) = 2 by rw [c2]; rfl), if_pos c2]
    generalize nuN f (tS f t i) (tkE f t (tS f t i) - tS f t i) = m at n4 hgl
    obtain ⟨l1, l2⟩ := cmp_lt (a := m) (b := lo) (by omega) (by omega)
    obtain ⟨l3, l4⟩ := cmp_lt (a := m) (b := hi') (by omega) (by omega)
    unfold J_X12_takeNumber_28
    rw [if_neg (by rw [x8_0 h]; exact fun z => z rfl), gR_mmb, l12_0_6 hL]
    simp only [Option.bind_some, gN_mmb]
    rw [n21_2 hL, m_0, h7, xin_i3 (show i < 1002 by omega) (by omega), gd_t, gd_t, xi_i3 (by omega), gL_mmb, hgl, l_i64 (by omega), l_i64 (by omega)]
    by_cases c1 : m < lo
    · rw [if_pos (by rw [l1]; exact c1), if_neg (show ¬ (lo ≤ m ∧ m ≤ hi') by omega)]
      exact bad 4 (by omega) (by omega)
    · rw [if_neg (by rw [l1]; exact c1)]
      by_cases c3 : m ≤ hi'
      · rw [if_pos (by rw [l4]; exact c3), if_pos (show lo ≤ m ∧ m ≤ hi' by omega)]
        obtain ⟨r1, r2⟩ := LnX_nx h hlt
        refine ⟨up Y 0 7 (i3 (i + 1)), ?_, r1, r2⟩
        have e7 : up Y 0 7 (i3 (i + 1)) 0 7 = i3 (i + 1) := up_eq
        unfold J_X12_takeNumber_70
        rw [if_pos (by rw [x8_le h]), x_7 h]
        simp only
        rw [gR_mmb, l12_0_6 hL]
        simp only [Option.bind_some, gN_mmb]
        rw [n21_2 hL, m_0, e7, show (i3 (i + 1) - 1 : Int32) = i3 i by rw [show (i3 (i + 1) - 1 : Int32) = i3 (i + 1 - 1) from i3_sub (b := 1) (by omega)]; rfl, xin_i3 (show i < 1002 by omega) (by omega), gd_t, xi_i3 (by omega), gL_mmb, hgl, to32]
        rfl
      · rw [if_neg (by rw [l4]; exact c3), if_neg (show ¬ (lo ≤ m ∧ m ≤ hi') by omega)]
        exact bad 4 (by omega) (by omega)
  · rw [if_neg (show ¬ i3 (tkT f t (tS f t i)) = 2 from fun z => c2 ((i3_eq (b := 2) (by omega) (by omega)).mp z)), if_neg c2]
    exact bad 1 (by omega) (by omega)
theorem t_takeNuF (h : LnX f t T q Y N) (h0 : q.1 ≠ 0) : F_X12_takeNumber fu 0 u v (mmb Y N) = some (0, mmb Y N) := by
  have e1 : ¬ gI (mmb Y N) 12 0 8 = 0 := by rw [x8_0 h]; exact h0
  have e2 : ¬ gI (mmb Y N) 12 0 8 ≤ 0 := by rw [x8_le h]; exact h0
  unfold F_X12_takeNumber J_X12_takeNumber_28 J_X12_takeNumber_70
  rw [if_pos e1, if_pos e1, if_neg e2]
/-! a sign taken -/
def tkSg (f : Nat → Nat) (t i w : Nat) : Nat × Nat := if sgB f t (tS f t i) w = true then (0, i + 1) else (1 + 16 * tS f t i, i)
theorem e_takeSg (h : LnC f t (0, i) M) (hf : 1100 < fu) (hw : w ≤ 126) : ∃ M', F_X10_takeSign fu 0 (i3 w) M = some (bz (decide ((tkSg f t i w).1 = 0)), M') ∧ LnC f t (tkSg f t i w) M' ∧ NyF M M' := by
  have es := e_isSign (fu := fu) (c := w) (h.2.1 rfl) hw
  have es' : F_X10_isSign fu 0 (i3 w) M = some (bz (sgB f t (tS f t i) w), M) := es
  unfold F_X10_takeSign tkSg
  rw [es']
  simp only [Option.bind_some]
  cases e : sgB f t (tS f t i) w with
  | true =>
    obtain ⟨M', r1, r2, r3⟩ := LnC_nx h hf
    refine ⟨M', ?_, r2, r3⟩
    rw [if_pos (show ¬ bz true = 0 from by decide), r1]
    simp only [Option.bind_some]
    rw [xb_t, gd_t]
    rfl
  | false =>
    obtain ⟨M', r1, r2, r3⟩ := LnC_fail (fu := fu) (k := 1) h (by omega)
    refine ⟨M', ?_, r2, r3⟩
    rw [if_neg (show ¬ ¬ bz false = 0 from fun z => z rfl), show F_X10_fail fu 0 1 M = _ from r1]
    simp only [Option.bind_some]
    rw [xb_f, gd_t]
    show some (0, M') = some (bz (decide (1 + 16 * tS f t i = 0)), M')
    rw [decide_eq_false (show ¬ 1 + 16 * tS f t i = 0 by omega)]
    rfl
theorem t_takeSg (h : LnX f t T (0, i) Y N) (hi : i ≤ T) (hT0 : tS f t T = t) (ht : t ≤ 1000) (hw : w ≤ 126) : ∃ Y', F_X12_takeSign fu 0 (i3 w) (mmb Y N) = some (mmb Y' N) ∧ LnX f t T (tkSg f t i w) Y' N ∧ XnF Y Y' := by
  have es : F_X12_isSign fu 0 (i3 w) (mmb Y N) = some (bz (sgB f t (tS f t i) w), mmb Y N) := t_isSign h.1 rfl hw
  unfold F_X12_takeSign tkSg
  rw [es]
  simp only [Option.bind_some]
  cases e : sgB f t (tS f t i) w with
  | true =>
    obtain ⟨r1, r2⟩ := LnX_nx h (sg_lt hT0 hi e)
    refine ⟨_, ?_, r1, r2⟩
    rw [if_neg (show ¬ bz true = 0 from by decide), x_7 h]
  | false =>
    obtain ⟨Y', r1, r2, r3⟩ := LnX_fail (fu := fu) (k := 1) h (by omega) (by omega) ht
    refine ⟨Y', ?_, r2, r3⟩
    rw [if_pos (show bz false = 0 from rfl), show F_X12_wrong fu 0 1 (mmb Y N) = _ from r1]
    rfl
theorem t_takeSgF (h : LnX f t T q Y N) (h0 : q.1 ≠ 0) : F_X12_takeSign fu 0 u (mmb Y N) = some (mmb Y N) := by
  unfold F_X12_takeSign
  rw [t_isSignF h.1 (LnX_v h h0)]
  simp only [Option.bind_some]
  rw [if_pos trivial, t_wrongF h.1 (LnX_v h h0)]
  rfl
/-! names -/
theorem e_isName (h : AtC f t s M) : F_X10_isName fu 0 M = some (bz (isNm f t s), M) := by
  have hT5 : tkT f t s ≤ 4 := tkT_le
  unfold F_X10_isName isNm
  rw [h.2.2.2.2.1, h.2.2.2.2.2.1]
  by_cases c1 : tkT f t s = 1
  · rw [if_neg (fun z => z (show i3 (tkT f t s) = 1 by rw [c1]; rfl)), decide_eq_true c1]
    cases e : tkK f t s with
    | none =>
      rw [tkW_n e, if_pos (by decide), xb_t, gd_t]; rfl
    | some k =>
      have hk := (tkK_lt e).1
      rw [tkW_s e, if_neg (fun z => (i3_nl (a := k) (by omega)).mp z)]
      by_cases c : 19 ≤ k
      · rw [if_neg (show ¬ i3 k < 19 from fun q => by have := (i3_lt (b := 19) (by omega) (by omega)).mp q; omega), xb_t, gd_t]
        show some (1, M) = some (bz (true && decide (19 ≤ k)), M)
        rw [decide_eq_true c]; rfl
      · rw [if_pos (show i3 k < 19 from (i3_lt (b := 19) (by omega) (by omega)).mpr (by omega)), xb_f, gd_t]
        show some (0, M) = some (bz (true && decide (19 ≤ k)), M)
        rw [decide_eq_false c]; rfl
  · rw [if_pos (show ¬ i3 (tkT f t s) = 1 from fun z => c1 ((i3_eq (b := 1) (by omega) (by omega)).mp z)), xb_f, gd_t, decide_eq_false c1, Bool.false_and]
    rfl
theorem t_isName (h : LnX f t T (0, i) Y N) (hf : 1100 < fu) : F_X12_isName fu 0 (mmb Y N) = some (bz (isNm f t (tS f t i)), mmb Y N) := by
  have hL := h.1.1
  have h7 : Y 0 7 = i3 i := h.1.2.2.2.2.2.2.2.2.2.1
  have hi : i ≤ T := h.1.2.2.2.2.2.2.2.2.2.2.1
  have hTt := h.1.2.2.2.2.1
  have ht := h.1.2.2.2.2.2.1
  obtain ⟨e88', e89⟩ := AtX_88 h.1
  have e88 : Y 88 i = i3 (tkT f t (tS f t i)) := e88'
  have hT5 : tkT f t (tS f t i) ≤ 4 := tkT_le
  have ew : F_X12_wordHere fu 0 0 19 (mmb Y N) = some (wHr (tkK f t (tS f t i)) 0 19, mmb Y N) := t_wordHere (a := 0) (n := 19) h.1 rfl (by omega) hf
  unfold F_X12_isName isNm
  rw [if_neg (by rw [x8_0 h]; exact fun z => z rfl), gR_mmb, l12_0_4 hL]
  simp only [Option.bind_some, gN_mmb]
  rw [n20_88 hL, m_0, h7, xin_i3 (show i < 1002 by omega) (by omega), gd_t, xi_i3 (by omega), m_88, e88]
  by_cases c1 : tkT f t (tS f t i) = 1
  · rw [if_neg (fun z => z (show i3 (tkT f t (tS f t i)) = 1 by rw [c1]; rfl)), ew, decide_eq_true c1]
    simp only [Option.bind_some]
    cases e : tkK f t (tS f t i) with
    | none =>
      rw [if_neg (show ¬ (0 : Int32) ≤ wHr none 0 19 from by decide), xb_t, gd_t]; rfl
    | some k =>
      have hk := (tkK_lt e).1
      by_cases c : 19 ≤ k
      · have ev : wHr (some k) 0 19 = -1 := if_neg (by omega)
        rw [ev, if_neg (by decide), xb_t, gd_t]
        show some (1, mmb Y N) = some (bz (true && decide (19 ≤ k)), mmb Y N)
        rw [decide_eq_true c]; rfl
      · have ev : wHr (some k) 0 19 = i3 (k - 0) := if_pos (by omega)
        rw [ev, if_pos (ge0 (by omega)), xb_f, gd_t]
        show some (0, mmb Y N) = some (bz (true && decide (19 ≤ k)), mmb Y N)
        rw [decide_eq_false c]; rfl
  · rw [if_pos (show ¬ i3 (tkT f t (tS f t i)) = 1 from fun z => c1 ((i3_eq (b := 1) (by omega) (by omega)).mp z)), xb_f, gd_t, decide_eq_false c1, Bool.false_and]
    rfl
end
