/-! ===== both sides made: the relation holds ===== -/
def C00 : xC := fun _ _ => 0
/-- the ints, checked by the kernel -/
def okTj (j m : Nat) (v : Int32) : Bool := (List.range m).all fun k => decide (tb 0 wL j k = v)
theorem okT_0 : okTj 0 6 0 = true := by decide +kernel
theorem okT_1 : okTj 1 6 0 = true := by decide +kernel
theorem okT_2 : okTj 2 36 0 = true := by decide +kernel
theorem okT_3 : okTj 3 36 (-1) = true := by decide +kernel
theorem okT_4 : okTj 4 36 (-1) = true := by decide +kernel
theorem okT_5 : okTj 5 36 (-1) = true := by decide +kernel
theorem okT_6 : okTj 6 36 (-1) = true := by decide +kernel
theorem okT_9 : okTj 9 20 0 = true := by decide +kernel
theorem okT_11 : okTj 11 5 0 = true := by decide +kernel
theorem okT_12 : okTj 12 5 0 = true := by decide +kernel
theorem okT_14 : tb 0 wL 14 1 = 1 ∧ tb 0 wL 14 2 = 0 ∧ tb 0 wL 14 3 = 0 ∧ tb 0 wL 14 10 = 0 ∧ tb 0 wL 14 11 = 0 := by decide +kernel
theorem okT_15 : tb 0 wL 15 0 = 0 ∧ tb 0 wL 15 1 = 0 ∧ tb 0 wL 15 2 = 0 ∧ tb 0 wL 15 3 = 0 ∧ tb 0 wL 15 4 = -1 ∧ tb 0 wL 15 5 = 0 ∧ tb 0 wL 15 6 = 0 := by decide +kernel
def okX95 : Bool := (List.range 502).all fun k => decide (tX wL 95 k = stX (fun _ _ => 0) 0 95 k)
theorem okX95_t : okX95 = true := by decide +kernel
def okW : Bool := (List.range 23).all fun k => decide (gL wL 21 3 k = Int64.ofNat (wdL.getD k 0))
theorem okW_t : okW = true := by decide +kernel
theorem wL_i : gI wL 7 0 0 = 0 ∧ gI wL 7 0 1 = 0 ∧ gI wL 7 0 2 = 0 ∧ gI wL 7 0 3 = 0 ∧ gI wL 8 0 3 = 0 ∧ gI wL 9 0 0 = 0 ∧ gI wL 1 0 0 = 0 ∧ gI wL 22 19 0 = 0 ∧ gI wL 22 19 1 = 0 ∧ gI wL 5 0 5 = 0 ∧ gI wL 10 0 1 = 0 := by decide +kernel
theorem wL_x : tX wL 90 0 = 0 ∧ tX wL 90 1 = 0 ∧ tX wL 90 2 = 0 ∧ tX wL 90 3 = 0 ∧ tX wL 90 4 = -1 ∧ tX wL 0 2 = 0 ∧ tX wL 0 22 = -1 ∧ tX wL 0 26 = 0 ∧ tX wL 92 0 = 0 ∧ tX wL 95 502 = 0 ∧ tX wL 1 0 = 0 ∧ tX wL 1 1 = 0 := by decide +kernel
theorem wL_r : gR wL 11 0 1 = some 0 ∧ gR wL 11 0 2 = some 1 ∧ gR wL 11 0 3 = some 0 ∧ gR wL 11 0 4 = some 1 ∧ gR wL 2 0 4 = some 0 := by decide +kernel
section
variable {c s k j n : Nat} {v : Option Nat} {C : xC} {D : xT}
theorem all_r {m : Nat} {f : Nat → Bool} (h : (List.range m).all f = true) {i : Nat} (hi : i < m) : f i = true := List.all_eq_true.mp h i (List.mem_range.mpr hi)
theorem rT_c (h : rT c s k = some v) : c < 26 := by
  by_cases q : c < 26
  · exact q
  · unfold rT rT1 at h
    rw [if_neg (by omega), if_neg (by omega), if_neg (by omega), if_neg (by omega), if_neg (by omega), if_neg (by omega), if_neg (by omega), if_neg (by omega), if_neg (by omega), if_neg (by omega), if_neg (by omega), if_neg (by omega), if_neg (by omega), if_neg (by omega)] at h
    cases h
theorem rT_s (h : rT c s k = some v) : s < 5 := by
  by_cases q : s < 5
  · exact q
  · unfold rT rT1 at h
    simp only [show (s < 5) = False from eq_false q, show (s < 2) = False from eq_false (by omega), show (s = 0) = False from eq_false (by omega), show (s = 1) = False from eq_false (by omega), show (s = 2) = False from eq_false (by omega), false_and, if_false, ite_self] at h
    cases h
theorem rT_k (h : rT c s k = some v) : k < 28 := by
  by_cases q : k < 28
  · exact q
  · unfold rT rT1 at h
    simp only [show (k = 0) = False from eq_false (by omega), show (k = 1) = False from eq_false (by omega), show (k = 2) = False from eq_false (by omega), show (k = 3) = False from eq_false (by omega), show (k = 4) = False from eq_false (by omega), show (k = 5) = False from eq_false (by omega), show (k = 6) = False from eq_false (by omega), show (k = 7) = False from eq_false (by omega), show (k = 8) = False from eq_false (by omega), show (k = 9) = False from eq_false (by omega), show (k = 10) = False from eq_false (by omega), show (k = 11) = False from eq_false (by omega), show (k = 12) = False from eq_false (by omega), show (k = 13) = False from eq_false (by omega), show (k = 14) = False from eq_false (by omega), show (k = 15) = False from eq_false (by omega), show (k = 16) = False from eq_false (by omega), show (k = 17) = False from eq_false (by omega), show (k = 18) = False from eq_false (by omega), show (k = 19) = False from eq_false (by omega), show (k = 20) = False from eq_false (by omega), show (k = 21) = False from eq_false (by omega), show (k = 22) = False from eq_false (by omega), show (k = 23) = False from eq_false (by omega), show (k = 24) = False from eq_false (by omega), show (k = 25) = False from eq_false (by omega), show (k = 26) = False from eq_false (by omega), show (k = 27) = False from eq_false (by omega), show (k < 16) = False from eq_false (by omega), and_false, if_false, ite_self] at h
    cases h
theorem wL_lay : Lay wL := by
  refine ⟨fun c s k v h => ?_, fun c s n h => ?_⟩
  · have h1 := all_r (all_r (all_r okR_t (rT_c h)) (rT_s h)) (rT_k h)
    rw [h] at h1
    exact of_decide_eq_true h1
  · have hN := okN_t
    unfold okN at hN
    simp only [Bool.and_eq_true] at hN
    obtain ⟨⟨⟨n1, n2⟩, n3⟩, n4⟩ := hN
    obtain ⟨m1, m2, m3⟩ := of_decide_eq_true n4
    by_cases c20 : c = 20
    · subst c20
      by_cases q : s < 99
      · have := of_decide_eq_true (all_r n1 q)
        rw [this] at h
        exact Option.some.inj h
      · exfalso
        unfold nT at h
        rw [if_pos rfl, List.getElem?_eq_none (by show 99 ≤ s; omega)] at h
        cases h
    · by_cases c21 : c = 21
      · subst c21
        by_cases q : s < 8
        · have := of_decide_eq_true (all_r n2 q)
          rw [this] at h
          exact Option.some.inj h
        · exfalso
          unfold nT at h
          rw [if_neg (by omega), if_pos rfl, List.getElem?_eq_none (by show 8 ≤ s; omega)] at h
          cases h
      · by_cases c22 : c = 22
        · subst c22
          by_cases q : s < 21
          · have := of_decide_eq_true (all_r n3 q)
            rw [this] at h
            exact Option.some.inj h
          · exfalso
            unfold nT at h
            rw [if_neg (by omega), if_neg (by omega), if_pos rfl, List.getElem?_eq_none (by show 21 ≤ s; omega)] at h
            cases h
        · unfold nT at h
          rw [if_neg c20, if_neg c21, if_neg c22] at h
          by_cases q1 : c = 23 ∧ s = 0
          · rw [if_pos q1] at h
            rw [q1.1, q1.2, ← Option.some.inj h]; exact m1
          · rw [if_neg q1] at h
            by_cases q2 : c = 24 ∧ s = 0
            · rw [if_pos q2] at h
              rw [q2.1, q2.2, ← Option.some.inj h]; exact m2
            · rw [if_neg q2] at h
              by_cases q3 : c = 25 ∧ s = 0
              · rw [if_pos q3] at h
                rw [q3.1, q3.2, ← Option.some.inj h]; exact m3
              · rw [if_neg q3] at h
                cases h
theorem wL_tb (hj : j < 16) : tb 0 wL j k = startT C00 (tb 0 wL) j k := by
  have e : ∀ {j m v}, okTj j m v = true → ∀ {k}, k < m → tb 0 wL j k = v := fun h _ hk => of_decide_eq_true (all_r h hk)
  obtain ⟨p1, p2, p3, p4, p5⟩ := okT_14
  obtain ⟨q1, q2, q3, q4, q5, q6, q7⟩ := okT_15
  unfold startT
  by_cases c1 : j = 0 ∧ k < 6
  · rw [if_pos c1, c1.1]; exact e okT_0 c1.2
  rw [if_neg c1]
  by_cases c2 : j = 1 ∧ k < 6
  · rw [if_pos c2, c2.1]; exact e okT_1 c2.2
  rw [if_neg c2]
  by_cases c3 : j = 2 ∧ k < 36
  · rw [if_pos c3, c3.1]; exact e okT_2 c3.2
  rw [if_neg c3]
  by_cases c4 : (3 ≤ j ∧ j ≤ 6) ∧ k < 36
  · rw [if_pos c4]
    rcases (show j = 3 ∨ j = 4 ∨ j = 5 ∨ j = 6 by omega) with rfl | rfl | rfl | rfl
    · exact e okT_3 c4.2
    · exact e okT_4 c4.2
    · exact e okT_5 c4.2
    · exact e okT_6 c4.2
  rw [if_neg c4]
  by_cases c5 : j = 9 ∧ k < 20
  · rw [if_pos c5, c5.1]; exact e okT_9 c5.2
  rw [if_neg c5]
  by_cases c6 : (j = 11 ∨ j = 12) ∧ k < 5
  · rw [if_pos c6]
    rcases c6.1 with rfl | rfl
    · exact e okT_11 c6.2
    · exact e okT_12 c6.2
  rw [if_neg c6]
  by_cases c7 : j = 14 ∧ k = 1
  · rw [if_pos c7, c7.1, c7.2]; exact p1
  rw [if_neg c7]
  by_cases c8 : j = 14 ∧ (k = 2 ∨ k = 3 ∨ k = 10 ∨ k = 11)
  · rw [if_pos c8, c8.1]
    rcases c8.2 with rfl | rfl | rfl | rfl
    · exact p2
    · exact p3
    · exact p4
    · exact p5
  rw [if_neg c8]
  by_cases c9 : j = 15 ∧ k = 0
  · rw [if_pos c9, c9.1, c9.2]; exact q1
  rw [if_neg c9]
  by_cases c10 : j = 15 ∧ k = 1
  · rw [if_pos c10, c10.1, c10.2]; exact q2
  rw [if_neg c10]
  by_cases c11 : j = 15 ∧ (k = 2 ∨ k = 3)
  · rw [if_pos c11, c11.1]
    rcases c11.2 with rfl | rfl
    · exact q3
    · exact q4
  rw [if_neg c11]
  by_cases c12 : j = 15 ∧ k = 4
  · rw [if_pos c12, c12.1, c12.2]; exact q5
  rw [if_neg c12]
  by_cases c13 : j = 15 ∧ (k = 5 ∨ k = 6)
  · rw [if_pos c13, c13.1]
    rcases c13.2 with rfl | rfl
    · exact q6
    · exact q7
  rw [if_neg c13]
/-- THE START: the relation holds -/
theorem Sim_0 : SimP C00 (fun _ => 0) 0 0 0 (fun _ => 0) (fun _ _ => 0) 0 wL := by
  obtain ⟨i1, i2, i3', i4, i5, i6, i7, i8, i9, i10, i11⟩ := wL_i
  obtain ⟨x1, x2, x3, x4, x5, x6, x7, x8, x9, x10, x11, x12⟩ := wL_x
  obtain ⟨r1, r2, r3, r4, r5⟩ := wL_r
  have hCB : CB C00 := ⟨Nat.zero_le _, Nat.zero_le _, Nat.zero_le _, Nat.zero_le _, Nat.zero_le _, fun f hf => absurd hf (Nat.not_lt_zero _)⟩
  refine ⟨⟨wL_lay, by omega, by omega, r1, r2, r3, r4⟩, hCB, ⟨Nat.zero_le _, Nat.zero_le _, Nat.zero_le _, Nat.zero_le _, Nat.zero_le _, i1, i2, i3', i4, i5, fun f hf => absurd hf (Nat.not_lt_zero _), fun i hi => absurd hi (Nat.not_lt_zero _)⟩, ⟨x1, x2, x3, x4, fun f hf => absurd hf (Nat.not_lt_zero _)⟩, Or.inl ⟨rfl, by rw [x5]; decide⟩, ⟨fun _ => [], fun k hk => absurd hk (Nat.not_lt_zero _), fun k j hk => absurd hk (Nat.not_lt_zero _)⟩,
    ⟨0, Nat.le_refl _, Inv_lo (fun j k hj => wL_tb hj) (Inv_start hCB), InV_lo (fun j k hj => wL_tb hj) InV_start, Rel_D (fun j k hj => wL_tb hj) (Rel_row (X := stX (fun _ _ => 0) 0) (fun k _ hk => of_decide_eq_true (all_r okX95_t (show k < 502 by omega))) hCB (Rel_start hCB)), r5, fun k hk => ⟨0, Nat.le_refl _, ?_⟩⟩,
    fun q => ?_, ⟨i6, by omega, fun i hi => absurd hi (Nat.not_lt_zero _)⟩, ⟨x9, by omega, fun i hi => absurd hi (Nat.not_lt_zero _)⟩, ⟨0, fun _ => 0, fun _ => 0, fun _ => 0, ⟨by omega, i7, fun i hi => absurd hi (Nat.not_lt_zero _)⟩, ⟨by omega, x10, fun i hi => absurd hi (Nat.not_lt_zero _)⟩⟩, fun k hk => ?_, Or.inl ⟨i10, x8⟩, ⟨0, by omega, i11, x6, fun i hi => absurd hi (Nat.not_lt_zero _)⟩, fun k hk => of_decide_eq_true (all_r okW_t hk)⟩
  · rw [wL_tb (by omega)]
    unfold startT
    rw [if_pos ⟨rfl, hk⟩]
    rfl
  · rw [x7] at q
    exact absurd q (by decide)
  · rcases (show k = 0 ∨ k = 1 by omega) with rfl | rfl
    · exact ⟨i8.trans x11.symm, Or.inl i8⟩
    · exact ⟨i9.trans x12.symm, Or.inl i9⟩
end
/-- THE LAW, as the runner has it: true for every script -/
theorem law_true {scr : Nat → Int32} {L : Nat} (hL : L ≤ 3584) : ∃ M', F_L_law 100000 scr L M0x = some (1, M') := by
  obtain ⟨M', h⟩ := law_loop (scr := scr) (fu := 100000) rfl hL 100000 0 wL ⟨_, _, _, _, _, _, _, Sim_0⟩ (Nat.zero_le _) (by omega)
  refine ⟨M', ?_⟩
  have hA : F_X11_init 100000 (gA M0x 11) (nC M0x 11 0) = some wC := wA_eq
  have hB : F_X12_init 100000 0 (nC wC 12 0) = some wM := wB_eq
  unfold F_L_law
  simp only [hA, Option.bind_some, w_gA.1, hB, w_gA.2]
  rw [show ((1 : Int32) == Int32.ofNat 1) = true from by decide, gd_t]
  exact h
