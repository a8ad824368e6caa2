/-! ===== the rule, in the reference ===== -/
/-- one sign of the rule, in the class's code and in the reference's -/
def codeOf (c x : Int32) : Prop := (∃ v, v ≤ 9999 ∧ c = i3 v ∧ x = i3 (16 * v + 1)) ∨ (∃ i, i < 4 ∧ c = -1 - i3 i ∧ x = i3 (16 * i + 2)) ∨ (c = -5 ∧ x = i3 (16 * 0 + 3)) ∨
  ∃ k, k < 7 ∧ 4 ≤ k + 4 ∧ x = i3 (16 * 0 + (k + 4)) ∧ c = (if k = 0 then -7 else if k = 1 then -8 else if k = 2 then -6 else if k = 3 then -9 else if k = 4 then -10 else if k = 5 then -11 else -12)
/-- the height of the pile -/
def hgt (R : Nat → Int32) : Nat → Nat
  | 0 => 0
  | i + 1 => if ¬ R i ≤ -5 then hgt R i + 1 else if R i = -5 then hgt R i else hgt R i - 1
def RuleAs (C : xC) (R : Nat → Int32) (X : xT) : Prop := (C 0 4 = 0 ∧ X 90 4 < 0) ∨
  (0 < C 0 4 ∧ ∃ p, p + C 0 4 < 1100 ∧ X 90 4 = i3 p ∧ (∀ i, i < C 0 4 → codeOf (R i) (X 91 (p + i))) ∧ X 91 (p + C 0 4) = 0 ∧
    (∀ i, i < C 0 4 → (¬ R i ≤ -5 → hgt R i < 32) ∧ (R i = -5 → 0 < hgt R i) ∧ (¬ (-5 : Int32) ≤ R i → 1 < hgt R i)) ∧ hgt R (C 0 4) = 1)
section
variable {M : xM} {D E X Y Z T P X' E' E'' X'' : xT} {C : xC} {R N : Nat → Int32} {fu b d L L' s o t k n m i j p q f l w nb nw a at' : Nat} {x y z v u : Int32} {nt : Bool}
theorem nz16 : (!((16 : Int32) == 0)) = true := by decide
theorem code_div {r v0 : Nat} (hr : r < 16) (hv : v0 ≤ 9999) : i3 (16 * v0 + r) / 16 = i3 v0 ∧ i3 (16 * v0 + r) - i3 v0 * 16 = i3 r := by
  constructor
  · rw [show (16 : Int32) = i3 16 from rfl, i3_div (by omega) (by omega)]
    congr 1; omega
  · rw [show (16 : Int32) = i3 16 from rfl, i3_mul, i3_sub (by omega)]
    congr 1; omega
theorem t_worked {k : Nat} (hk : k < 7) : F_X12_worked fu (i3 (k + 4)) x y (mmb X M) = some (joinT (if k = 0 then -7 else if k = 1 then -8 else if k = 2 then -6 else if k = 3 then -9 else if k = 4 then -10 else if k = 5 then -11 else -12) x y, mmb X M) := by
  unfold F_X12_worked joinT
  match k, hk with
  | 0, _ => rfl
  | 1, _ => rfl
  | 2, _ => rfl
  | 3, _ => simp [i3]; split <;> rfl
  | 4, _ => simp [i3]; split <;> rfl
  | 5, _ => simp [i3]; (repeat' split) <;> rfl
  | 6, _ => simp [i3]; (repeat' split) <;> simp_all
end
