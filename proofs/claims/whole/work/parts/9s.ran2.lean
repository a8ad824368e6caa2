/-! ===== runs, the first time or again ===== -/
/-- what the reference keeps of a work that was gone through -/
def Ran (C : xC) (R : Nat → Int32) (a n : Nat) (W : Nat → Nat) (V : Nat → Nat → Int32) (D X : xT) (M : xM) : Prop :=
  (∀ j, j ≤ n → X 97 j = i3 (wkP C R a W V D j)) ∧ (∀ c, 1 ≤ c → c ≤ wkP C R a W V D n → ∀ m, m < 3 → gL M 21 5 (3 * c + m) = Int64.ofNat (hor (ed (wkN C R a W V D n) c m) 7)) ∧
  ∀ i, i ≤ n → ∀ m, m < 3 → gL M 21 6 (3 * i + m) = Int64.ofNat (hor (wkS C R a W V D i m) 7)
/-- what runs leaves alone -/
def Fr (X X' : xT) : Prop := (∀ j k, (j ≠ 0 ∨ k < 20 ∨ 22 < k) → j ≠ 93 → j ≠ 94 → j ≠ 95 → j ≠ 96 → j ≠ 97 → X' j k = up X 0 26 1 j k) ∧ (∀ k, k < 1605 → X' 95 k = X 95 k) ∧
  ∀ b', b' < 1605 → X' 0 22 = i3 b' → X 0 22 = i3 b' ∧ X' 0 20 = X 0 20 ∧ X' 0 21 = X 0 21
section
variable {M : xM} {D E X Y Z T N X' E' E0 Tc : xT} {C : xC} {R G G' : Nat → Int32} {fu b d L L' s o t k n m i j p q f l w nb nw a r g c e B K P Q : Nat} {x y z v u : Int32} {nt : Bool} {W : Nat → Nat} {V : Nat → Nat → Int32}
theorem t_runs2 (h : Lay M) (hB : CB C) (hf : 1100 < fu) (hW : WkAs n W V X) (hM : MCfg C X) (hU : RuleAs C R X) (hE : InE (startT C D) 0 0) (h0 : X 0 26 = 0 ∨ X 0 26 = 1 ∧ Ran C R a n W V D X M) :
    ∃ X' M', F_X12_runs fu 0 (mmb X M) = some (mmb X' M') ∧ Ran C R a n W V D X' M' ∧ Lay M' ∧ gN M' = gN M ∧ MCfg C X' ∧ RuleAs C R X' ∧ WkAs n W V X' ∧ X' 0 26 = 1 ∧ Fr X X' := by
  have hn := hW.2.1
  rcases h0 with h0 | ⟨h0, hr⟩
  · obtain ⟨X', k1, k2, k3, k4, k5, k6, k7, k8, k9⟩ := t_runs (fu := fu) (a := a) (R := R) (D := D) (N := D) (V := V) h hB hf hW hM hU hE h0
    refine ⟨X', _, k1, ⟨k5, fun c hc hcP m hm => ran_ends hB hn hE hc hcP hm, fun i hi m hm => ran_ahead hi hm⟩, endM_lay _ _ (ahM_lay h _), (endM_N _ _).trans (ahM_N _), k2, k3, k4, k6, k7, k8, k9⟩
  · refine ⟨X, M, ?_, hr, h, rfl, hM, hU, hW, h0, fun j k _ _ _ _ _ _ => ?_, fun _ _ => rfl, fun b' _ q => ⟨q, rfl, rfl⟩⟩
    · unfold F_X12_runs
      rw [m_0, h0, if_neg (by decide)]
    · by_cases c1 : j = 0 ∧ k = 26
      · rw [c1.1, c1.2, up_eq, h0]
      · rw [up_ne (by omega)]
/-- what a page says behind a put of the work, or behind all of it -/
def afterN (C : xC) (R : Nat → Int32) (a n : Nat) (W : Nat → Nat) (V : Nat → Nat → Int32) (D : xT) (c p : Nat) : Int32 :=
  if c ≤ wkP C R a W V D n then NS (wkN C R a W V D n) (c - 1) p else findT (wkN C R a W V D n) (tot C) 17 p
theorem wkS_lt (hB : CB C) (hn : n ≤ 24) : (∀ k, wkS C R a W V D n m k < 512) ∧ (p < 20 → i3 (wkS C R a W V D n (p / 7) (p % 7)) - 1 = findT (wkN C R a W V D n) (tot C) 17 p) := by
  obtain ⟨i1, -⟩ := wk_Inv (R := R) (a := a) (W := W) (V := V) hB (Inv_startF (C := C) (D := D) hB) (InV_startF hB) (by omega) true n hn
  have i1' : Inv C (0 + 8 * n) (wkN C R a W V D n) := i1
  have hN : InN C (mountT (wkN C R a W V D n) (C 0 0) (C 0 1)) := (Inv_mount hB i1').2.2.1
  refine ⟨dg_lt hN, fun hp => ?_⟩
  unfold wkS dg
  rw [if_pos (by omega), show 7 * (p / 7) + p % 7 = p by omega, ← (sv_is (a := p) hN).1, ← says_mount hB i1' hp]
  show saysT C (mountT (wkN C R a W V D n) (C 0 0) (C 0 1)) p + 1 - 1 = _
  simp
/-- 'after', in the reference, the work gone through -/
theorem t_afterIn (h : Lay M) (hB : CB C) (hn : n ≤ 24) (hE : InE (startT C D) 0 0) (hr : Ran C R a n W V D X M) (hc : 1 ≤ c) (hp : p < 20) :
    (c ≤ wkP C R a W V D n → F_X12_saysIn fu (some 5) (i3 (3 * c)) (i3 p) (mmb X M) = some (afterN C R a n W V D c p, mmb X M)) ∧
    (¬ c ≤ wkP C R a W V D n → F_X12_saysIn fu (some 6) (i3 (3 * n)) (i3 p) (mmb X M) = some (afterN C R a n W V D c p, mmb X M)) := by
  obtain ⟨hPl, -⟩ := wkP_le (R := R) (a := a) (W := W) (V := V) hB hn hE
  constructor
  · intro hcP
    have hl := hr.2.1 c hc hcP (p / 7) (by omega)
    have := t_saysIn (fu := fu) (M := mmb X M) (t := 5) (q := 3 * c) (p := p) (ed_lt (m := p / 7) hB hn hE hc hcP) (by rw [gL_mmb]; exact hl) (by rw [gN_mmb, n21_5 h]; omega) (by rw [gN_mmb, n21_5 h]; omega) (by omega)
    rw [this, ed_says hB hn hE hc hcP hp]
    unfold afterN
    rw [if_pos hcP]
  · intro hcP
    have hl := hr.2.2 n (Nat.le_refl _) (p / 7) (by omega)
    have hw := wkS_lt (R := R) (a := a) (W := W) (V := V) (D := D) (m := p / 7) (p := p) hB hn
    have := t_saysIn (fu := fu) (M := mmb X M) (t := 6) (q := 3 * n) (p := p) hw.1 (by rw [gL_mmb]; exact hl) (by rw [gN_mmb, n21_6 h]; omega) (by rw [gN_mmb, n21_6 h]; omega) (by omega)
    rw [this, hw.2 hp]
    unfold afterN
    rw [if_neg hcP]
end
