/-! ===== a WORK, read: the class ===== -/
/-- a line: fault, token, kind, file, page, value; n lines there are -/
def wlLn (f : Nat → Nat) (t F : Nat) (nm : Nat → List Nat) (n i : Nat) : Nat × Nat × Nat × Nat × Nat × Nat :=
  match acO f t (tS f t i) with
  | some k => if n < 24 then wlRest f t F nm k (i + 1) else (5 + 16 * tS f t i, i, 0, 0, 0, 0)
  | none => (1 + 16 * tS f t i, i, 0, 0, 0, 0)
/-- one line more in the table -/
def dUp (D : Nat → Nat → Nat) (n : Nat) (p : Nat × Nat × Nat × Nat) : Nat → Nat → Nat := fun j e => if j = n then (if e = 0 then p.1 else if e = 1 then p.2.1 else if e = 2 then p.2.2.1 else p.2.2.2) else D j e
section
variable {M M' M1 N : xM} {X Y Y' : xT} {f : Nat → Nat} {fu l t T n i j k d s x a b w F e : Nat} {c ls : List Nat} {q : Nat × Nat} {u v : Int32} {nm : Nat → List Nat} {D : Nat → Nat → Nat}
theorem ac_is (h : AtC f t s M) : (∃ k, acO f t s = some k ∧ k < 6 ∧ gI M 10 0 3 = i3 (k + 6)) ∨ acO f t s = none ∧ (gI M 10 0 3 < 6 ∨ ¬ gI M 10 0 3 < 6 ∧ ¬ gI M 10 0 3 ≤ 11) := by
  rw [h.2.2.2.2.2.1]
  unfold acO
  cases e : tkK f t s with
  | none =>
    right
    rw [tkW_n e]
    exact ⟨rfl, Or.inl (by decide)⟩
  | some k =>
    have hk := (tkK_lt e).1
    rw [tkW_s e]
    by_cases c : 6 ≤ k ∧ k ≤ 11
    · left
      refine ⟨k - 6, ?_, by omega, by congr 1; omega⟩
      show (if 6 ≤ k ∧ k ≤ 11 then some (k - 6) else none) = some (k - 6)
      rw [if_pos c]
    · right
      refine ⟨?_, ?_⟩
      · show (if 6 ≤ k ∧ k ≤ 11 then some (k - 6) else none) = none
        rw [if_neg c]
      · by_cases c2 : k < 6
        · exact Or.inl ((i3_lt (b := 6) (by omega) (by omega)).mpr c2)
        · exact Or.inr ⟨fun z => c2 ((i3_lt (b := 6) (by omega) (by omega)).mp z), fun z => by have := (i3_le (b := 11) (by omega) (by omega)).mp z; omega⟩
theorem e_wline107 (h : LnC f t (0, i) M) (hw : w < 2) (h9 : gI M 9 w 0 = i3 n) (hn : n < 24) (hf : 1100 < fu) (hk6 : k < 6) :
    ∃ M', J_X9_readLine_107 fu w (some 0) (i3 k) M = some (bz (decide ((if k = 0 then (wlNum f t i).1 else 0) = 0)), M') ∧ LnC f t (if k = 0 then ((wlNum f t i).1, (wlNum f t i).2.1) else (0, i)) M' ∧ WkF w M M' ∧ (∀ s j, ((s ≠ 10 + 4 * w + 2 ∧ s ≠ 10 + 4 * w + 3) ∨ j ≠ n) → gI M' 20 s j = gI M 20 s j) ∧
      ((if k = 0 then (wlNum f t i).1 else 0) = 0 → gI M' 9 w 0 = i3 (n + 1) ∧ (k = 0 → gI M' 20 (10 + 4 * w + 2) n = i3 (wlNum f t i).2.2.1 ∧ gI M' 20 (10 + 4 * w + 3) n = i3 (wlNum f t i).2.2.2) ∧ (k ≠ 0 → ∀ s, gI M' 20 s n = gI M 20 s n)) := by
  unfold J_X9_readLine_107
  by_cases k0 : k = 0
  · subst k0
    obtain ⟨M1, r1, r2, r3, r4, r5, r6⟩ := e_readNums (fu := fu) h hw h9 hn hf
    simp only [if_true]
    rw [if_neg (show ¬ ¬ i3 0 = 0 from fun z => z rfl), r1]
    simp only [Option.bind_some]
    by_cases c0 : (wlNum f t i).1 = 0
    · obtain ⟨z1, z2⟩ := r6 c0
      refine ⟨sI M1 9 w 0 (i3 (n + 1)), ?_, LnC_9 r2, WkF_tr r3 WkF_9, fun s j hs => by rw [gI_sI, if_neg (by omega)]; exact r4 s j hs, fun _ => ⟨by rw [gI_sI, if_pos ⟨rfl, rfl, rfl⟩], fun _ => ⟨by rw [gI_sI, if_neg (by omega)]; exact z1, by rw [gI_sI, if_neg (by omega)]; exact z2⟩, fun z => absurd rfl z⟩⟩
      rw [decide_eq_true c0, if_pos (show ¬ bz true = 0 from by decide), r5, i3_add1, xb_t, gd_t]
      rfl
    · refine ⟨M1, ?_, r2, r3, r4, fun z => absurd z c0⟩
      rw [decide_eq_false c0, if_neg (show ¬ ¬ bz false = 0 from fun z => z rfl), xb_f, gd_t]
      rfl
  · simp only [if_neg k0]
    refine ⟨sI M 9 w 0 (i3 (n + 1)), ?_, LnC_9 h, WkF_9, fun s j hs => by rw [gI_sI, if_neg (by omega)], fun _ => ⟨by rw [gI_sI, if_pos ⟨rfl, rfl, rfl⟩], fun z => absurd z k0, fun _ s => by rw [gI_sI, if_neg (by omega)]⟩⟩
    rw [if_pos (show ¬ i3 k = 0 from fun z => k0 ((i3_eq (b := 0) (by omega) (by omega)).mp z)), h9, i3_add1, xb_t, gd_t]
    rfl
end
