/-! ===== the texts, as the statement gives them ===== -/
/-- the texts' terms -/
def whT (i : Nat) : Term := match i with
  | 0 => .string "FlashNodes$Tape" 59
  | 1 => .string "FlashNodes$Tape" 77
  | _ => .string "FlashNodes" 310
abbrev whG : List Cond := flatC (Jvm.Cond.and given_1 narrow_1)
abbrev whL : List Nat := [8, 184, 21]
theorem wh_ex : ∀ i, i < 3 → Cond.exactly (whT i) "java/lang/String" ∈ whG := by decide +kernel
theorem wh_co : ∀ i, i < 3 → Cond.eq (.field (whT i) "java/lang/String" "coder" "B") (.int 0) ∈ whG := by decide +kernel
theorem wh_ar : ∀ i, i < 3 → Cond.arrayOf (.field (whT i) "java/lang/String" "value" "[B") .byte ∈ whG := by decide +kernel
theorem wh_le : ∀ i, i < 3 → Cond.eq (.length (.field (whT i) "java/lang/String" "value" "[B")) (.int (Int32.ofNat (whL.getD i 0))) ∈ whG := by decide +kernel
theorem wh_el0 : ∀ j, j < 8 → Cond.eq (.elem (.field (whT 0) "java/lang/String" "value" "[B") (.int (Int32.ofNat j))) (.int ((xbyts.getD 0 []).getD j 0)) ∈ whG := by decide +kernel
/-- the j-th byte of the second text -/
def whE (j : Nat) : Cond := Cond.eq (.elem (.field (whT 1) "java/lang/String" "value" "[B") (.int (Int32.ofNat j))) (.int ((xbyts.getD 1 []).getD j 0))
theorem wh_e1_0 : ∀ j, j < 23 → whE (23 * 0 + j) ∈ (whG.drop (70 + 23 * 0)).take 23 := by decide +kernel
theorem wh_e1_1 : ∀ j, j < 23 → whE (23 * 1 + j) ∈ (whG.drop (70 + 23 * 1)).take 23 := by decide +kernel
theorem wh_e1_2 : ∀ j, j < 23 → whE (23 * 2 + j) ∈ (whG.drop (70 + 23 * 2)).take 23 := by decide +kernel
theorem wh_e1_3 : ∀ j, j < 23 → whE (23 * 3 + j) ∈ (whG.drop (70 + 23 * 3)).take 23 := by decide +kernel
theorem wh_e1_4 : ∀ j, j < 23 → whE (23 * 4 + j) ∈ (whG.drop (70 + 23 * 4)).take 23 := by decide +kernel
theorem wh_e1_5 : ∀ j, j < 23 → whE (23 * 5 + j) ∈ (whG.drop (70 + 23 * 5)).take 23 := by decide +kernel
theorem wh_e1_6 : ∀ j, j < 23 → whE (23 * 6 + j) ∈ (whG.drop (70 + 23 * 6)).take 23 := by decide +kernel
theorem wh_e1_7 : ∀ j, j < 23 → whE (23 * 7 + j) ∈ (whG.drop (70 + 23 * 7)).take 23 := by decide +kernel
theorem wh_e1 : ∀ k, k < 8 → ∀ j, j < 23 → whE (23 * k + j) ∈ (whG.drop (70 + 23 * k)).take 23 := by
  intro k hk
  match k, hk with
  | 0, _ => exact wh_e1_0
  | 1, _ => exact wh_e1_1
  | 2, _ => exact wh_e1_2
  | 3, _ => exact wh_e1_3
  | 4, _ => exact wh_e1_4
  | 5, _ => exact wh_e1_5
  | 6, _ => exact wh_e1_6
  | 7, _ => exact wh_e1_7
  | k + 8, h => exact absurd h (by omega)
theorem wh_el1 : ∀ j, j < 184 → Cond.eq (.elem (.field (whT 1) "java/lang/String" "value" "[B") (.int (Int32.ofNat j))) (.int ((xbyts.getD 1 []).getD j 0)) ∈ whG := fun j hj => by
  have h := wh_e1 (j / 23) (Nat.div_lt_of_lt_mul (show j < 23 * 8 from hj)) (j % 23) (Nat.mod_lt j (Nat.zero_lt_succ 22))
  rw [Nat.div_add_mod] at h
  exact List.mem_of_mem_drop (List.mem_of_mem_take h)
theorem wh_el2 : ∀ j, j < 21 → Cond.eq (.elem (.field (whT 2) "java/lang/String" "value" "[B") (.int (Int32.ofNat j))) (.int ((xbyts.getD 2 []).getD j 0)) ∈ whG := by decide +kernel
theorem wh_el (i : Nat) (hi : i < 3) (j : Nat) (hj : j < whL.getD i 0) : Cond.eq (.elem (.field (whT i) "java/lang/String" "value" "[B") (.int (Int32.ofNat j))) (.int ((xbyts.getD i []).getD j 0)) ∈ whG := by
  rcases (show i = 0 ∨ i = 1 ∨ i = 2 by omega) with rfl | rfl | rfl
  · exact wh_el0 j hj
  · exact wh_el1 j hj
  · exact wh_el2 j hj
theorem wh_ne : ∀ i, i < 3 → ∀ j, j < 3 → i ≠ j → Cond.not (Cond.eq (whT i) (whT j)) ∈ whG ∨ Cond.not (Cond.eq (whT j) (whT i)) ∈ whG := by decide +kernel
theorem wh_len : ∀ i, i < 3 → whL.getD i 0 < 2 ^ 31 := by decide
