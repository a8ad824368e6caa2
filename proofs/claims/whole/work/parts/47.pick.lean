/-! ===== which block is taken; the fresh block ===== -/
theorem survT_ok {C : xC} {D : xT} (hB : CB C) (hV : InV C D) : survOK C (surveyT D (C 0 0) (C 0 1)) := by
  unfold surveyT
  rcases hV with e | ⟨e, hs⟩
  · rw [if_pos e]
    have hsm : ∀ j k, j ≠ 10 → j ≠ 13 → j ≠ 14 → survS D (C 0 1) (C 0 0 * C 0 1) j k = D j k := fun j k a b c => survS_lo D _ _ j k (by omega)
    have hl : liveB (survS D (C 0 1) (C 0 0 * C 0 1)) = liveB D := funext (same_live hsm)
    have hj : jourB (survS D (C 0 1) (C 0 0 * C 0 1)) = jourB D := funext (same_jourB hsm)
    refine ⟨?_, ?_, ?_, ?_⟩
    · rw [hl]; unfold survS tot; simp
    · rw [hj]; unfold survS tot; simp
    · intro s hs
      rw [hl]; unfold survS
      have : s < C 0 0 * C 0 1 := hs
      simp [this]
    · intro k hk
      rw [hl]; unfold survS tot
      simp [hk]
  · rw [if_neg (by rw [e]; decide)]; exact hs
theorem live_surv {D : xT} {nb nw : Nat} : liveB (surveyT D nb nw) = liveB D := funext (same_live (fun j k a b c => surveyT_lo (by omega)))
def liN (D : xT) (nw k : Nat) : Nat := cnt (fun i => liveB D (k * nw + i)) nw
def diN (D : xT) (nw k : Nat) : Nat := cnt (fun i => tlB D 2 (k * nw + i)) nw
theorem surv_10 {C : xC} {D : xT} (hB : CB C) (hV : InV C D) {k : Nat} (hk : k < C 0 0) : surveyT D (C 0 0) (C 0 1) 10 k = i3 (liN D (C 0 1) k) := by
  have h1 := hB.1
  have := (survT_ok hB hV).2.2.2 k (by omega)
  rw [this, live_surv]
  unfold liN
  rcases Nat.eq_zero_or_pos (C 0 1) with e | e
  · unfold tot; rw [e]; rfl
  · unfold tot; rw [cnt_block e hk]
theorem di_sum {D : xT} {nw l k : Nat} (hl : eraN D nw k nw = l) : l + liN D nw k + diN D nw k = nw := by
  have := tl_sum D (k * nw) nw
  unfold eraN at hl
  have e0 : cnt (fun i => tlB D 0 (k * nw + i)) nw = l := by rw [← hl]; rfl
  have e1 : cnt (fun i => tlB D 1 (k * nw + i)) nw = liN D nw k := rfl
  have e2 : cnt (fun i => tlB D 2 (k * nw + i)) nw = diN D nw k := rfl
  omega
section
variable {M : xM} {D X : xT} {C : xC} {fu b L s o : Nat}
theorem dirty_eq (hB : CB C) (hO : Ok (C 0 0) (C 0 1) D) (hV : InV C D) (hI : InB C D) {k : Nat} (hk : k < C 0 0) : dirtyT (surveyT D (C 0 0) (C 0 1)) k = i3 (diN D (C 0 1) k) := by
  obtain ⟨l, h1, h2, h3, h4⟩ := hI.2 k hk
  have hd := di_sum (era_l h1 h3)
  unfold dirtyT
  rw [surv_10 hB hV hk, surveyT_lo (by omega), surveyT_lo (by omega), hO.2.2.2.1, h2, i3_sub h1, i3_sub (by omega)]
  congr 1; omega
theorem pickF_pos {E : xT} : ∀ k, k ≤ 6 → ((pickF E k).1 = -1 ∧ (pickF E k).2 = 0) ∨ ∃ h, h < k ∧ (pickF E k).1 = i3 h ∧ 0 < (pickF E k).2
  | 0, _ => Or.inl ⟨rfl, rfl⟩
  | k + 1, hk => by
    have ih := pickF_pos (E := E) k (by omega)
    have e0 : pickF E (k + 1) = if (pickF E k).2 < (if i3 k = E 15 4 then 0 else dirtyT E k) ∨ (¬ (pickF E k).1 < 0 ∧ (if i3 k = E 15 4 then 0 else dirtyT E k) = (pickF E k).2 ∧ E 0 k < E 0 (xi (pickF E k).1)) then (i3 k, if i3 k = E 15 4 then 0 else dirtyT E k) else pickF E k := rfl
    rw [e0]
    generalize (if i3 k = E 15 4 then 0 else dirtyT E k) = y
    by_cases c' : (pickF E k).2 < y ∨ (¬ (pickF E k).1 < 0 ∧ y = (pickF E k).2 ∧ E 0 k < E 0 (xi (pickF E k).1))
    · rw [if_pos c']
      refine Or.inr ⟨k, by omega, rfl, ?_⟩
      show 0 < y
      rcases ih with ⟨e1, e2⟩ | ⟨h, hh, e1, e2⟩
      · rcases c' with c' | c'
        · rw [e2] at c'; exact c'
        · exact absurd (by rw [e1]; decide) c'.1
      · rcases c' with c' | c'
        · have q1 := Int32.lt_iff_toInt_lt.mp c'
          have q2 := Int32.lt_iff_toInt_lt.mp e2
          exact Int32.lt_iff_toInt_lt.mpr (by omega)
        · rw [c'.2.1]; exact e2
    · rw [if_neg c']
      rcases ih with e | ⟨h, hh, e⟩
      · exact Or.inl e
      · exact Or.inr ⟨h, by omega, e⟩
/-- the section as it is, or as it is behind a look-up -/
def Gd (C : xC) (b : Nat) (D X Y : xT) : Prop := Y = X ∨ Y = lkX X b (i3 (fsN D), i3 (wpN D))
theorem lkX_lkX (y : Int32 × Int32) : lkX (lkX X b y) b y = lkX X b y := by
  funext j k
  unfold lkX
  by_cases c1 : j = 0 ∧ k = 22
  · simp only [if_pos c1]
  · by_cases c2 : j = 0 ∧ k = 20
    · simp only [if_neg c1, if_pos c2]
    · by_cases c3 : j = 0 ∧ k = 21
      · simp only [if_neg c1, if_neg c2, if_pos c3]
      · simp only [if_neg c1, if_neg c2, if_neg c3]
theorem Gd_rel {Y : xT} (hR : Rel C b D X) (hM : MCfg C X) (hL : X 0 22 = i3 b → Lk D X) (hG : Gd C b D X Y) : Rel C b D Y ∧ MCfg C Y ∧ (Y 0 22 = i3 b → Lk D Y) ∧ lkX Y b (i3 (fsN D), i3 (wpN D)) = lkX X b (i3 (fsN D), i3 (wpN D)) := by
  rcases hG with rfl | rfl
  · exact ⟨hR, hM, hL, rfl⟩
  · exact ⟨Rel_95 hR (fun k => lkX_o (Or.inl (by decide))), MCfg_90 hM (fun k => lkX_o (Or.inl (by decide))), fun _ => Lk_lkX, lkX_lkX _⟩
theorem t_pick100 {n k : Nat} {x2 x3 y : Int32} {t : Bool} {K : Nat → Int32 → Int32 → Int32 → Int32 → xM → Option (Int32 × xM)} : J_X12_pickOf_100 fu K 0 (i3 b) x2 x3 (i3 k) y (bz t) M = K 0 (i3 b) (if t then i3 k else x2) (if t then y else x3) (i3 (k + 1)) M := by
  unfold J_X12_pickOf_100 J_X12_pickOf_113
  cases t with
  | false => simp [bz, i3_add1]
  | true => simp [bz, i3_add1]
theorem t_pick50 (h : Lay M) (hb : b ≤ 2140) (hR : Rel C b D X) {k : Nat} (hk : k < 6) {x y : Int32 × Int32} {K : Nat → Int32 → Int32 → Int32 → Int32 → xM → Option (Int32 × xM)} {z : Int32}
    (hx : (x.1 = -1 ∧ x.2 = 0) ∨ ∃ h, h < k ∧ x.1 = i3 h ∧ 0 < x.2) : J_X12_pickOf_50 fu K 0 (i3 b) x.1 x.2 (i3 k) z (mmb X M) = K 0 (i3 b) (if x.2 < z ∨ (¬ x.1 < 0 ∧ z = x.2 ∧ D 0 k < D 0 (xi x.1)) then i3 k else x.1) (if x.2 < z ∨ (¬ x.1 < 0 ∧ z = x.2 ∧ D 0 k < D 0 (xi x.1)) then z else x.2) (i3 (k + 1)) (mmb X M) := by
  have q0 := @t_pick100 (mmb X M) fu b 0 k x.1 x.2 z false K
  have q1 := @t_pick100 (mmb X M) fu b 0 k x.1 x.2 z true K
  rw [show bz false = 0 from rfl] at q0
  rw [show bz true = 1 from rfl] at q1
  simp only [Bool.false_eq_true, if_false, if_true] at q0 q1
  unfold J_X12_pickOf_50
  rw [q0, q1]
  by_cases c1 : x.2 < z
  · simp only [c1, true_or, if_true]
  · simp only [c1, false_or, if_false]
    by_cases c2 : z = x.2
    · rcases hx with ⟨e1, e2⟩ | ⟨h', hh, e1, e2⟩
      · rw [if_neg (by simpa using c2), if_pos (by rw [c2, e2]; exact Int32.le_refl _)]
        have : ¬ (¬ x.1 < 0 ∧ z = x.2 ∧ D 0 k < D 0 (xi x.1)) := fun q => q.1 (by rw [e1]; decide)
        simp only [if_neg this]
      · have e3 : ¬ z ≤ 0 := by rw [c2]; exact Int32.not_le.mpr e2
        have r1 := hR.2.2.2.2.2.2.2.1 k hk
        have r2 := hR.2.2.2.2.2.2.2.1 h' (by omega)
        have e4 : ¬ x.1 < 0 := by rw [e1]; exact fun q => (i3_nl (a := h') (by omega)).mp q
        rw [if_neg (by simpa using c2), if_neg e3]
        simp only [e1]
        simp (disch := first | assumption | omega) only [l12_0_1, l12_0_4, l12_0_5, l12_0_6, l12_0_9, l12_0_10, l12_0_11, l12_0_13, l12_0_14, l12_0_15, l12_0_16, l12_0_17, l12_0_18, l12_0_19, l12_0_23, l12_0_24, l12_0_25, l12_0_27, n20_83, n20_84, n20_85, n20_86, n20_87, n20_88, n20_89, n20_90, n20_91, n20_92, n20_93, n20_94, n20_95, n20_96, n20_97, n20_98, n21_2, n21_3, n21_4, n21_5, n21_6, n22_20, m_0, m_1, m_87, m_88, m_89, m_90, m_91, m_92, m_93, m_94, m_95, m_96, m_97, m_98, p_0, p_1, p_87, p_88, p_89, p_90, p_91, p_92, p_93, p_94, p_95, p_96, p_97, p_98, gR_mmb, gN_mmb, gL_mmb, i3_add1, i3_add, i3_mul, i3_addl, i3_mull, i3_ladd, i3_lmul, i3_div4, i3_le, i3_lt, i3_eq, i3_lel, i3_lle, i3_ltl, i3_llt, i3_eql, i3_leq, i3_nl, i3_0l, i3_nn, n1_lt, n1_le, xi_i3, xin_i3, xi_lit, xin_lit, xb0, xb1, gd_t, nz4, Option.bind_some, gR_emb, gN_emb, gL_emb, ↓reduceIte, if_true, if_false, not_true_eq_false, not_false_eq_true, eq_self, Nat.not_lt_zero, Nat.zero_le, true_or, or_true, false_or, or_false, true_and, and_true, false_and, and_false, r1, r2, c2]
        have e5 : ¬ (i3 h' < 0) := by rw [← e1]; exact e4
        by_cases c4 : D 0 h' ≤ D 0 k
        · have : ¬ (D 0 k < D 0 h') := Int32.not_lt.mpr c4
          simp [c4, this]
        · have : D 0 k < D 0 h' := Int32.not_le.mp c4
          simp [c4, this, e5, i3_nl (show h' < 2147483648 by omega)]
    · rw [if_pos c2]
      simp [c2]
end
