/-! ===== a WORK's line, read: the class ===== -/
/-- the numbers of a write -/
def wlNum (f : Nat → Nat) (t i : Nat) : Nat × Nat × Nat × Nat :=
  if (tkNu f t i 0 3).1 = 0 then (if (tkNu f t (tkNu f t i 0 3).2.1 0 255).1 = 0 then (0, (tkNu f t (tkNu f t i 0 3).2.1 0 255).2.1, (tkNu f t i 0 3).2.2, (tkNu f t (tkNu f t i 0 3).2.1 0 255).2.2) else ((tkNu f t (tkNu f t i 0 3).2.1 0 255).1, (tkNu f t (tkNu f t i 0 3).2.1 0 255).2.1, 0, 0)) else ((tkNu f t i 0 3).1, (tkNu f t i 0 3).2.1, 0, 0)
/-- the name of a line: fault, token, file -/
def wlNam (f : Nat → Nat) (t F : Nat) (nm : Nat → List Nat) (i : Nat) : Nat × Nat × Nat :=
  if isNm f t (tS f t i) = true then (match ixO nm F (tkL f t (tS f t i)) with | some k => (0, i + 1, k) | none => (2 + 16 * tS f t i, i, 0)) else (1 + 16 * tS f t i, i, 0)
/-- behind the act's word: fault, token, kind, file, page, value -/
def wlRest (f : Nat → Nat) (t F : Nat) (nm : Nat → List Nat) (k i : Nat) : Nat × Nat × Nat × Nat × Nat × Nat :=
  if k ≤ 3 then (if (wlNam f t F nm i).1 = 0 then (if k = 0 then ((wlNum f t (wlNam f t F nm i).2.1).1, (wlNum f t (wlNam f t F nm i).2.1).2.1, k, (wlNam f t F nm i).2.2, (wlNum f t (wlNam f t F nm i).2.1).2.2.1, (wlNum f t (wlNam f t F nm i).2.1).2.2.2) else (0, (wlNam f t F nm i).2.1, k, (wlNam f t F nm i).2.2, 0, 0)) else ((wlNam f t F nm i).1, (wlNam f t F nm i).2.1, k, 0, 0, 0)) else (0, i, k, 0, 0, 0)
/-- which act -/
def acO (f : Nat → Nat) (t s : Nat) : Option Nat := match tkK f t s with
  | some k => if 6 ≤ k ∧ k ≤ 11 then some (k - 6) else none
  | none => none
/-- the cells of the work that is read -/
def WkR (w : Nat) (n : Nat) (D : Nat → Nat → Nat) (M : xM) : Prop := gI M 9 w 0 = i3 n ∧ ∀ j, j < n → ∀ e, e < 4 → gI M 20 (10 + 4 * w + e) j = i3 (D j e)
/-- what reading a work leaves alone -/
def WkF (w : Nat) (M M' : xM) : Prop := (∀ c s k, gR M' c s k = gR M c s k) ∧ (∀ c s, gN M' c s = gN M c s) ∧ (∀ c s k, (c ≠ 10 ∨ s ≠ 0 ∨ k ≠ 6) → gL M' c s k = gL M c s k) ∧ ∀ c s k, (c ≠ 10 ∨ s ≠ 0 ∨ k = 1) → (c ≠ 9 ∨ s ≠ w ∨ k ≠ 0) → (c ≠ 20 ∨ s < 10 + 4 * w ∨ 14 + 4 * w ≤ s) → gI M' c s k = gI M c s k
section
variable {M M' M1 N : xM} {X Y Y' : xT} {f : Nat → Nat} {fu l t T n i j k d s x a b w F e : Nat} {c ls : List Nat} {q : Nat × Nat} {u v : Int32} {nm : Nat → List Nat} {D : Nat → Nat → Nat}
theorem WkF_tr (h : WkF w M M1) (h2 : WkF w M1 M') : WkF w M M' := ⟨fun c s k => (h2.1 c s k).trans (h.1 c s k), fun c s => (h2.2.1 c s).trans (h.2.1 c s), fun c s k q => (h2.2.2.1 c s k q).trans (h.2.2.1 c s k q), fun c s k q1 q2 q3 => (h2.2.2.2 c s k q1 q2 q3).trans (h.2.2.2 c s k q1 q2 q3)⟩
theorem WkF_ny (h : NyF M M') : WkF w M M' := ⟨h.1, h.2.1, h.2.2.1, fun c s k q1 _ _ => h.2.2.2 c s k q1⟩
theorem WkF_20 (h : 10 + 4 * w ≤ s ∧ s < 14 + 4 * w) : WkF w M (sI M 20 s k v) := ⟨fun _ _ _ => rfl, fun _ _ => rfl, fun _ _ _ _ => rfl, fun c s k q1 q2 q3 => by rw [gI_sI, if_neg (by omega)]⟩
theorem WkF_9 : WkF w M (sI M 9 w 0 v) := ⟨fun _ _ _ => rfl, fun _ _ => rfl, fun _ _ _ _ => rfl, fun c s k q1 q2 q3 => by rw [gI_sI, if_neg (by omega)]⟩
theorem TpC_20 (h : TpC f t M) : TpC f t (sI M 20 s k v) := ⟨h.1, h.2.1, by rw [gI_sI, if_neg (by omega)]; exact h.2.2.1, fun i hi => by rw [gI_sI, if_neg (by omega)]; exact h.2.2.2 i hi⟩
theorem TpC_9 (h : TpC f t M) : TpC f t (sI M 9 s k v) := ⟨h.1, h.2.1, by rw [gI_sI, if_neg (by omega)]; exact h.2.2.1, fun i hi => by rw [gI_sI, if_neg (by omega)]; exact h.2.2.2 i hi⟩
theorem LnC_c (h : LnC f t q M) (hT : TpC f t M') (h10 : ∀ k, gI M' 10 0 k = gI M 10 0 k) (hl : gL M' 10 0 6 = gL M 10 0 6) : LnC f t q M' := by
  refine ⟨hT, fun q0 => ?_, fun q0 => (h10 9).trans (h.2.2 q0)⟩
  obtain ⟨a1, a2, a3, a4, a5, a6, a7, a8, a9⟩ := h.2.1 q0
  exact ⟨hT, a2, (h10 _).trans a3, (h10 _).trans a4, (h10 _).trans a5, (h10 _).trans a6, fun z => (h10 _).trans (a7 z), fun z => (h10 _).trans (a8 z), fun z => hl.trans (a9 z)⟩
theorem LnC_20 (h : LnC f t q M) : LnC f t q (sI M 20 s k v) := LnC_c h (TpC_20 h.1) (fun i => by rw [gI_sI, if_neg (by omega)]) rfl
theorem LnC_9 (h : LnC f t q M) : LnC f t q (sI M 9 s k v) := LnC_c h (TpC_9 h.1) (fun i => by rw [gI_sI, if_neg (by omega)]) rfl
/-- the class's names -/
def NmC (a F : Nat) (nm : Nat → List Nat) (M : xM) : Prop := F ≤ 5 ∧ gI M 7 a 3 = i3 F ∧ ∀ k, k < F → (nm k).length ≤ 8 ∧ (∀ x, x ∈ nm k → 1 ≤ x ∧ x ≤ 26) ∧ gL M 21 a k = Int64.ofNat (enc 32 (nm k))
theorem NmC_f (h : NmC a F nm M) (hW : WkF w M M') : NmC a F nm M' := ⟨h.1, (hW.2.2.2 7 a 3 (by omega) (by omega) (by omega)).trans h.2.1, fun k hk => by
  obtain ⟨g1, g2, g3⟩ := h.2.2 k hk
  exact ⟨g1, g2, (hW.2.2.1 21 a k (by omega)).trans g3⟩⟩
theorem e_readName (h : LnC f t (0, i) M) (hN : NmC a F nm M) (ha : a < 2) (hw : w < 2) (h9 : gI M 9 w 0 = i3 n) (hn : n < 24) (hf : 1100 < fu) :
    ∃ M', F_X9_readName fu w (some 0) (some a) M = some (bz (decide ((wlNam f t F nm i).1 = 0)), M') ∧ LnC f t ((wlNam f t F nm i).1, (wlNam f t F nm i).2.1) M' ∧ WkF w M M' ∧ (∀ s k, (s ≠ 10 + 4 * w + 1 ∨ k ≠ n) → gI M' 20 s k = gI M 20 s k) ∧ gI M' 9 w 0 = i3 n ∧ ((wlNam f t F nm i).1 = 0 → gI M' 20 (10 + 4 * w + 1) n = i3 (wlNam f t F nm i).2.2) := by
  have hA : AtC f t (tS f t i) M := h.2.1 rfl
  have hL := h.1.1
  have ein := e_isName (fu := fu) hA
  unfold F_X9_readName wlNam
  simp only [Option.bind_some]
  rw [ein]
  simp only [Option.bind_some]
  cases en : isNm f t (tS f t i) with
  | false =>
    obtain ⟨M', r1, r2, r3⟩ := LnC_fail (fu := fu) (k := 1) h (by omega)
    have hne : ¬ (1 + 16 * tS f t i = 0) := by omega
    refine ⟨M', ?_, r2, WkF_ny r3, fun s k _ => r3.2.2.2 _ _ _ (by omega), (r3.2.2.2 _ _ _ (by omega)).trans h9, fun z => absurd z hne⟩
    rw [if_neg (show ¬ ¬ bz false = 0 from fun z => z rfl), show F_X10_fail fu 0 1 M = _ from r1]
    simp only [Option.bind_some]
    rw [xb_f, gd_t, if_neg (show ¬ (false = true) by decide), decide_eq_false hne]
    rfl
  | true =>
    have c1 : tkT f t (tS f t i) = 1 := by
      unfold isNm at en
      rw [Bool.and_eq_true, decide_eq_true_eq] at en
      exact en.1
    obtain ⟨q1, q2, q3, q4, q5, q6, q7, q8, q9⟩ := tk_w c1
    have eL : gL M 10 0 6 = Int64.ofNat (enc 32 (tkL f t (tS f t i))) := (hA.2.2.2.2.2.2.2.2 c1).trans q7
    have enm := e_named (fu := fu) (ls := tkL f t (tS f t i)) hL ha hN.1 hN.2.1 hN.2.2 q8 q9 hf
    rw [if_pos (show ¬ bz true = 0 from by decide), eL, enm, if_pos rfl]
    simp only [Option.bind_some]
    cases eo : ixO nm F (tkL f t (tS f t i)) with
    | none =>
      obtain ⟨M', r1, r2, r3⟩ := LnC_fail (fu := fu) (k := 2) h (by omega)
      have hne : ¬ (2 + 16 * tS f t i = 0) := by omega
      refine ⟨M', ?_, r2, WkF_ny r3, fun s k _ => r3.2.2.2 _ _ _ (by omega), (r3.2.2.2 _ _ _ (by omega)).trans h9, fun z => absurd z hne⟩
      rw [if_neg (show ¬ (0 : Int32) ≤ ixN none from by decide), show F_X10_fail fu 0 2 M = _ from r1]
      simp only [Option.bind_some]
      rw [xb_f, gd_t, decide_eq_false hne]
      rfl
    | some k0 =>
      have hk0 := (lst_some.mp eo).1
      have hF5 := hN.1
      obtain ⟨M', r1, r2, r3⟩ := LnC_nx (LnC_20 (s := 10 + 4 * w + 1) (k := n) (v := i3 k0) h) hf
      refine ⟨M', ?_, r2, WkF_tr (WkF_20 (by omega)) (WkF_ny r3), fun s k hsk => ?_, ?_, fun _ => ?_⟩
      · rw [if_pos (show (0 : Int32) ≤ ixN (some k0) from ge0 (by omega)), l9_2 hL hw]
        simp only [Option.bind_some]
        rw [n_s1 hL hw, h9, xin_i3 hn (by omega), gd_t, xi_i3 (by omega)]
        show ((F_X10_next fu 0 (sI M 20 (10 + 4 * w + 1) n (i3 k0))).bind _) = _
        rw [r1]
        simp only [Option.bind_some]
        rw [xb_t, gd_t]
        rfl
      · rw [r3.2.2.2 _ _ _ (by omega), gI_sI, if_neg (by omega)]
      · rw [r3.2.2.2 _ _ _ (by omega), gI_sI, if_neg (by omega)]; exact h9
      · rw [r3.2.2.2 _ _ _ (by omega), gI_sI, if_pos ⟨rfl, rfl, rfl⟩]
end
