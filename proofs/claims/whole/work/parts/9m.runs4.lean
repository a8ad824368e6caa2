/-! ===== the work gone through once, in the reference ===== -/
/-- the packs ahead of the first i lines, in cell 6 -/
def ahM (S : Nat → Nat → Nat → Nat) : Nat → xM → xM
  | 0, M => M
  | i + 1, M => packM (ahM S i M) 6 (3 * i) (S i) 3
section
variable {M : xM} {D E X Y Z T N X' E' E0 Tc : xT} {C : xC} {R G G' : Nat → Int32} {fu b d L L' s o t k n m i j p q f l w nb nw a r g c e B K P Q : Nat} {x y z v u : Int32} {nt : Bool} {W : Nat → Nat} {V : Nat → Nat → Int32} {kk : Nat → Int32 → xM → Option xM} {S : Nat → Nat → Nat → Nat} {S1 : Nat → Nat → Nat}
theorem ahM_lay (h : Lay M) : ∀ i, Lay (ahM S i M)
  | 0 => h
  | i + 1 => packM_lay (ahM_lay h i)
/-- the noted work's state ahead of line i -/
def wkN (C : xC) (R : Nat → Int32) (a : Nat) (W : Nat → Nat) (V : Nat → Nat → Int32) (D : xT) (i : Nat) : xT := wkF C R a true W V (startF C D) i
/-- how many puts ahead of line i -/
def wkP (C : xC) (R : Nat → Int32) (a : Nat) (W : Nat → Nat) (V : Nat → Nat → Int32) (D : xT) (i : Nat) : Nat := xi (wkN C R a W V D i 24 0)
/-- what pages say ahead of line i, were it mounted -/
def wkS (C : xC) (R : Nat → Int32) (a : Nat) (W : Nat → Nat) (V : Nat → Nat → Int32) (D : xT) (i : Nat) : Nat → Nat → Nat := dg C (mountT (wkN C R a W V D i) (C 0 0) (C 0 1))
/-- the reference ahead of line i -/
def R22 (C : xC) (R : Nat → Int32) (a n : Nat) (W : Nat → Nat) (V : Nat → Nat → Int32) (D X : xT) (i : Nat) (Y : xT) : Prop :=
  MCfg C Y ∧ RuleAs C R Y ∧ WkAs n W V Y ∧ (∀ j, j < i → Y 97 j = i3 (wkP C R a W V D j)) ∧ (∀ j k, (j ≠ 0 ∨ k < 20 ∨ 22 < k) → j ≠ 93 → j ≠ 94 → j ≠ 95 → j ≠ 96 → j ≠ 97 → Y j k = X j k) ∧ (∀ k, k < 1605 → Y 95 k = X 95 k) ∧ (∀ b', b' < 1605 → Y 0 22 = i3 b' → X 0 22 = i3 b' ∧ Y 0 20 = X 0 20 ∧ Y 0 21 = X 0 21)
theorem R22_fm (h : R22 C R a n W V D X i Y) (hb : 1605 ≤ b) (hF : Fm b Y Z) : R22 C R a n W V D X i Z := by
  obtain ⟨h1, h2, h3, h4, h5, h6, h7⟩ := h
  refine ⟨MCfg_90 h1 (fun k => hF.1 90 k (by omega) (by decide) (by decide) (by decide) (by decide)), Fm_rule hF h2, Wk_fm h3 (fun k => fm92 hF), fun j hj => (hF.1 97 j (by omega) (by decide) (by decide) (by decide) (by decide)).trans (h4 j hj), fun j k q1 q2 q3 q4 q5 q6 => (hF.1 j k q1 q2 q3 q4 q5).trans (h5 j k q1 q2 q3 q4 q5 q6), fun k hk => (hF.2.1 k (by omega)).trans (h6 k hk), fun b' hb' e => ?_⟩
  obtain ⟨a1, a2, a3⟩ := hF.2.2 b' (by omega) (by omega) e
  obtain ⟨c1, c2, c3⟩ := h7 b' hb' a1
  exact ⟨c1, a2.trans c2, a3.trans c3⟩
theorem R22_97 (h : R22 C R a n W V D X i Y) (hv : v = i3 (wkP C R a W V D i)) : R22 C R a n W V D X (i + 1) (up Y 97 i v) := by
  obtain ⟨h1, h2, h3, h4, h5, h6, h7⟩ := h
  refine ⟨MCfg_90 h1 (fun k => up_ne (by omega)), RuleAs_fm h2 (up_ne (by omega)) (fun k => up_ne (by omega)), Wk_fm h3 (fun k => up_ne (by omega)), fun j hj => ?_, fun j k q1 q2 q3 q4 q5 q6 => (up_ne (by omega)).trans (h5 j k q1 q2 q3 q4 q5 q6), fun k hk => (up_ne (by omega)).trans (h6 k hk), fun b' hb' e => ?_⟩
  · by_cases c1 : j = i
    · rw [c1, up_eq, hv]
    · rw [up_ne (by omega)]; exact h4 j (by omega)
  · rw [up_ne (by omega)] at e
    rw [up_ne (by omega), up_ne (by omega)]
    exact h7 b' hb' e
/-- ahead of a line: copied, mounted, packed, counted -/
theorem t_ahead (h : Lay M) (hB : CB C) (hf : 1100 < fu) (hin : i ≤ n) (hn : n ≤ 24) (hE : InE (startT C D) 0 0) (hS : R22 C R a n W V D X i Y) (hR : Rel C 1605 (wkN C R a W V D i) Y) (hLk : Y 0 22 = i3 1605 → Lk (wkN C R a W V D i) Y) (h6 : Y 95 1611 = i3 (wkP C R a W V D i)) :
    ∃ Z, F_X12_moves fu 0 1605 2140 502 (mmb Y M) = some (mmb (mvX Y 1605 2140 502) M) ∧ F_X12_mounts fu 0 2140 (mmb (mvX Y 1605 2140 502) M) = some (mountT (wkN C R a W V D i) (C 0 0) (C 0 1) 14 15, mmb Z M) ∧
      F_X12_packs fu 0 2140 (some 6) (i3 (3 * i)) (mmb Z M) = some (mmb Z (packM M 6 (3 * i) (wkS C R a W V D i) 3)) ∧ R22 C R a n W V D X i Z ∧ Rel C 1605 (wkN C R a W V D i) Z ∧ (Z 0 22 = i3 1605 → Lk (wkN C R a W V D i) Z) ∧ Z 95 1611 = i3 (wkP C R a W V D i) := by
  obtain ⟨i1, i2⟩ := wk_Inv (R := R) (a := a) (W := W) (V := V) hB (Inv_startF (C := C) (D := D) hB) (InV_startF hB) (by omega) true i (by omega)
  have hF1 : Fm 2140 Y (mvX Y 1605 2140 502) := Fm_mv (by omega)
  have hM1 : MCfg C (mvX Y 1605 2140 502) := MCfg_90 hS.1 (fun k => hF1.1 90 k (by omega) (by decide) (by decide) (by decide) (by decide))
  have hL1 : mvX Y 1605 2140 502 0 22 = i3 2140 → Lk (wkN C R a W V D i) (mvX Y 1605 2140 502) := by
    intro e
    have : mvX Y 1605 2140 502 0 22 = -1 := by unfold mvX; rw [if_pos ⟨rfl, rfl⟩]
    rw [this] at e
    exact absurd e (neg_i3 (by omega))
  obtain ⟨Z, m1, m2, m3, m4, m5, m6⟩ := t_mounts (fu := fu) (M := M) (b := 2140) h hM1 (by omega) hB (Rel_move (q := 2140) hB hR) i1 hL1 hf (by omega) false
  have hIm := Inv_mount hB i1
  have hpk := t_packs (fu := fu) (M := M) (t := 6) (q := 3 * i) (b := 2140) h m3 (by omega) hB m2 hIm.2.2.2.2.1 hIm.2.2.1 (by omega) (by omega) (by rw [n21_6 h]; omega) (by rw [n21_6 h]; omega)
  have hF2 := Fm_tr hF1 m4
  exact ⟨Z, t_moves (p := 1605) (q := 2140) (n := 502) h (by omega) (by omega) (by omega) (by omega), m1, hpk, R22_fm hS (by omega) hF2, Rel_fm hF2 hR (by omega) hB, Lk_fm hF2 (by omega) (by omega) hLk, (hF2.2.1 _ (by omega)).trans h6⟩
end
