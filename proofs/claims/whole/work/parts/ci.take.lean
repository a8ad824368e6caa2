/-! ===== lines, read: numbers, signs, names ===== -/
/-- the class, as far as read: fault, token -/
def LnC (f : Nat → Nat) (t : Nat) (q : Nat × Nat) (M : xM) : Prop := TpC f t M ∧ (q.1 = 0 → AtC f t (tS f t q.2) M) ∧ (q.1 ≠ 0 → gI M 10 0 9 = i3 q.1)
/-- the reference, as far as read -/
def LnX (f : Nat → Nat) (t T : Nat) (q : Nat × Nat) (Y : xT) (N : xM) : Prop := AtX f t T q.2 (i3 q.1) Y N ∧ q.1 < 20000
def NyF (M M' : xM) : Prop := (∀ c s k, gR M' c s k = gR M c s k) ∧ (∀ c s, gN M' c s = gN M c s) ∧ (∀ c s k, (c ≠ 10 ∨ s ≠ 0 ∨ k ≠ 6) → gL M' c s k = gL M c s k) ∧ ∀ c s k, (c ≠ 10 ∨ s ≠ 0 ∨ k = 1) → gI M' c s k = gI M c s k
def XnF (Y Y' : xT) : Prop := ∀ j k, (j ≠ 0 ∨ k ≠ 7 ∧ k ≠ 8) → Y' j k = Y j k
/-- a number between lo and hi, or a fault -/
def tkNu (f : Nat → Nat) (t i lo hi : Nat) : Nat × Nat × Nat := if tkT f t (tS f t i) = 2 then (if lo ≤ nuN f (tS f t i) (tkE f t (tS f t i) - tS f t i) ∧ nuN f (tS f t i) (tkE f t (tS f t i) - tS f t i) ≤ hi then (0, i + 1, nuN f (tS f t i) (tkE f t (tS f t i) - tS f t i)) else (4 + 16 * tS f t i, i, 0)) else (1 + 16 * tS f t i, i, 0)
def isNm (f : Nat → Nat) (t s : Nat) : Bool := decide (tkT f t s = 1) && (match tkK f t s with | some k => decide (19 ≤ k) | none => true)
section
variable {M M' M1 M2 N : xM} {X Y Y' Y1 Z : xT} {f : Nat → Nat} {fu l t T n i j k d s x a b w lo hi : Nat} {c : List Nat} {q : Nat × Nat} {u v dd x2 x3 : Int32}
theorem NyF_tr (h : NyF M M1) (h2 : NyF M1 M') : NyF M M' := ⟨fun c s k => (h2.1 c s k).trans (h.1 c s k), fun c s => (h2.2.1 c s).trans (h.2.1 c s), fun c s k q => (h2.2.2.1 c s k q).trans (h.2.2.1 c s k q), fun c s k q => (h2.2.2.2 c s k q).trans (h.2.2.2 c s k q)⟩
theorem NyF_rf : NyF M M := ⟨fun _ _ _ => rfl, fun _ _ => rfl, fun _ _ _ _ => rfl, fun _ _ _ _ => rfl⟩
theorem NyF_nx (h : NxF M M') : NyF M M' := ⟨h.1, h.2.1, h.2.2.1, fun c s k q => h.2.2.2 c s k (by omega)⟩
theorem NyF_9 : NyF M (sI M 10 0 9 v) := ⟨fun _ _ _ => rfl, fun _ _ => rfl, fun _ _ _ _ => rfl, fun c s k q => by rw [gI_sI, if_neg (by omega)]⟩
theorem XnF_tr (h : XnF Y Y1) (h2 : XnF Y1 Y') : XnF Y Y' := fun j k a => (h2 j k a).trans (h j k a)
theorem LnC_nx (h : LnC f t (0, i) M) (hf : 1100 < fu) : ∃ M', F_X10_next fu 0 M = some M' ∧ LnC f t (0, i + 1) M' ∧ NyF M M' := by
  obtain ⟨M', r1, r2, r3⟩ := e_nx (h.2.1 rfl) hf
  exact ⟨M', r1, ⟨r2.1, fun _ => r2, fun q => absurd rfl q⟩, NyF_nx r3⟩
theorem LnC_fail (h : LnC f t (0, i) M) (hk : 0 < k) : ∃ M', F_X10_fail fu 0 (i3 k) M = some (0, M') ∧ LnC f t (k + 16 * tS f t i, i) M' ∧ NyF M M' :=
  ⟨_, e_fail (h.2.1 rfl), ⟨TpC_s h.1 (by omega), fun q => by have : k + 16 * tS f t i = 0 := q; omega, fun _ => by rw [gI_sI, if_pos ⟨rfl, rfl, rfl⟩]⟩, NyF_9⟩
theorem LnX_nx (h : LnX f t T (0, i) Y N) (hi : i < T) : LnX f t T (0, i + 1) (up Y 0 7 (i3 (i + 1))) N ∧ XnF Y (up Y 0 7 (i3 (i + 1))) :=
  ⟨⟨AtX_cg h.1 (fun k => up_ne (by omega)) (fun k => up_ne (by omega)) up_eq hi ((up_ne (by omega)).trans h.1.2.2.2.2.2.2.2.2.2.2.2), h.2⟩, fun j k a => up_ne (by omega)⟩
theorem LnX_fail (h : LnX f t T (0, i) Y N) (hk : 0 < k) (hk2 : k ≤ 5) (ht : t ≤ 1000) : ∃ Y', F_X12_wrong fu 0 (i3 k) (mmb Y N) = some (mmb Y' N) ∧ LnX f t T (k + 16 * tS f t i, i) Y' N ∧ XnF Y Y' := by
  have hle : tS f t i ≤ t := tS_le i
  refine ⟨_, t_wrong h.1 rfl, ⟨AtX_cg h.1 (fun k => up_ne (by omega)) (fun k => up_ne (by omega)) ((up_ne (by omega)).trans h.1.2.2.2.2.2.2.2.2.2.1) h.1.2.2.2.2.2.2.2.2.2.2.1 up_eq, ?_⟩, fun j k a => up_ne (by omega)⟩
  show k + 16 * tS f t i < 20000
  omega
theorem LnX_v (h : LnX f t T q Y N) (h0 : q.1 ≠ 0) : i3 q.1 ≠ 0 := fun z => h0 ((i3_eq (b := 0) (by have := h.2; omega) (by omega)).mp z)
/-! a number -/
theorem e_takeNu (h : LnC f t (0, i) M) (hf : 1100 < fu) (hl : lo ≤ 1000) (hh : hi ≤ 1000) : ∃ M', F_X10_takeNumber fu 0 (i3 lo) (i3 hi) M = some (if (tkNu f t i lo hi).1 = 0 then i3 (tkNu f t i lo hi).2.2 else -1, M') ∧ LnC f t ((tkNu f t i lo hi).1, (tkNu f t i lo hi).2.1) M' ∧ NyF M M' := by
  have hA : AtC f t (tS f t i) M := h.2.1 rfl
  have hT5 : tkT f t (tS f t i) ≤ 4 := tkT_le
  unfold F_X10_takeNumber tkNu
  rw [hA.2.2.2.2.1]
  by_cases c2 : tkT f t (tS f t i) = 2
  · obtain ⟨n1, n2, n3, n4⟩ := tk_n c2
    rw [if_pos (show i3 (tkT f t (tS f t i)) = 2 by rw [c2]; rfl), if_pos c2, hA.2.2.2.2.2.2.1 c2, n3]
    generalize nuN f (tS f t i) (tkE f t (tS f t i) - tS f t i) = m at n4
    by_cases c1 : m < lo
    · rw [if_pos ((i3_lt (by omega) (by omega)).mpr c1), if_neg (show ¬ (lo ≤ m ∧ m ≤ hi) by omega)]
      obtain ⟨M', r1, r2, r3⟩ := LnC_fail (fu := fu) (k := 4) h (by omega)
      refine ⟨M', ?_, r2, r3⟩
      rw [show F_X10_fail fu 0 4 M = _ from r1, if_neg (show ¬ (4 + 16 * tS f t i = 0) by omega)]
      rfl
    · rw [if_neg (fun z => c1 ((i3_lt (by omega) (by omega)).mp z))]
      by_cases c3 : m ≤ hi
      · rw [if_pos ((i3_le (by omega) (by omega)).mpr c3), if_pos (show lo ≤ m ∧ m ≤ hi by omega)]
        obtain ⟨M', r1, r2, r3⟩ := LnC_nx h hf
        refine ⟨M', ?_, r2, r3⟩
        rw [r1, if_pos rfl]
        rfl
      · rw [if_neg (fun z => c3 ((i3_le (by omega) (by omega)).mp z)), if_neg (show ¬ (lo ≤ m ∧ m ≤ hi) by omega)]
        obtain ⟨M', r1, r2, r3⟩ := LnC_fail (fu := fu) (k := 4) h (by omega)
        refine ⟨M', ?_, r2, r3⟩
        rw [show F_X10_fail fu 0 4 M = _ from r1, if_neg (show ¬ (4 + 16 * tS f t i = 0) by omega)]
        rfl
  · rw [if_neg (show ¬ i3 (tkT f t (tS f t i)) = 2 from fun z => c2 ((i3_eq (b := 2) (by omega) (by omega)).mp z)), if_neg c2]
    obtain ⟨M', r1, r2, r3⟩ := LnC_fail (fu := fu) (k := 1) h (by omega)
    refine ⟨M', ?_, r2, r3⟩
    rw [show F_X10_fail fu 0 1 M = _ from r1, if_neg (show ¬ (1 + 16 * tS f t i = 0) by omega)]
    rfl
theorem cmp_lt (ha : a < 2 ^ 31) (hb : b < 2 ^ 31) : (lg_cmp (Int64.ofNat a) (Int64.ofNat b) < 0) = (a < b) ∧ (lg_cmp (Int64.ofNat a) (Int64.ofNat b) ≤ 0) = (a ≤ b) := by
  have e : Int64.ofNat a = Int64.ofNat b ↔ a = b := ⟨fun z => inj64 (by omega) (by omega) z, fun z => by rw [z]⟩
  have e2 : Int64.ofNat b < Int64.ofNat a ↔ b < a := Int64.ofNat_lt_iff_lt (by omega) (by omega)
  have hv : lg_cmp (Int64.ofNat a) (Int64.ofNat b) = if b < a then 1 else if a = b then 0 else -1 := by
    unfold lg_cmp
    by_cases c : b < a
    · rw [if_pos (e2.mpr c), if_pos c]
    · rw [if_neg (fun z => c (e2.mp z)), if_neg c]
      by_cases c2 : a = b
      · rw [if_pos (e.mpr c2), if_pos c2]
      · rw [if_neg (fun z => c2 (e.mp z)), if_neg c2]
  rw [hv]
  by_cases c : b < a
  · rw [if_pos c]
    exact ⟨propext ⟨fun z => absurd z (by decide), fun z => by omega⟩, propext ⟨fun z => absurd z (by decide), fun z => by omega⟩⟩
  · rw [if_neg c]
    by_cases c2 : a = b
    · rw [if_pos c2]
      exact ⟨propext ⟨fun z => absurd z (by decide), fun z => by omega⟩, propext ⟨fun _ => by omega, fun _ => by decide⟩⟩
    · rw [if_neg c2]
      exact ⟨propext ⟨fun _ => by omega, fun _ => by decide⟩, propext ⟨fun _ => by omega, fun _ => by decide⟩⟩
end
