/-! ===== what pages say, packed ===== -/
def hor (S : Nat → Nat) : Nat → Nat
  | 0 => 0
  | r + 1 => 512 * hor S r + S (6 - r)
section
theorem sh64 (v k : Nat) (hv : v < 2 ^ 63) (hk : k < 7) : (Int64.ofNat v >>> Int64.ofNat (9 * k)) &&& 511 = Int64.ofNat (v / 2 ^ (9 * k) % 512) := by
  have hvm : (Int64.ofNat v).toBitVec = BitVec.ofNat 64 v := rfl
  have ha : ((Int64.ofNat (9 * k)).toBitVec.smod 64).toNat = 9 * k := by
    match k, hk with
    | 0, _ => decide
    | 1, _ => decide
    | 2, _ => decide
    | 3, _ => decide
    | 4, _ => decide
    | 5, _ => decide
    | 6, _ => decide
  have hmsb : (BitVec.ofNat 64 v).msb = false := by
    rw [BitVec.msb_eq_decide, BitVec.toNat_ofNat]
    apply decide_eq_false
    omega
  apply Int64.toBitVec_inj.mp
  apply BitVec.eq_of_toNat_eq
  rw [Int64.toBitVec_and, Int64.toBitVec_shiftRight, hvm, BitVec.sshiftRight', ha, BitVec.sshiftRight_eq_of_msb_false hmsb, BitVec.toNat_and, BitVec.toNat_ushiftRight, BitVec.toNat_ofNat]
  have e511 : (511 : Int64).toBitVec.toNat = 2 ^ 9 - 1 := by decide
  have hor : (Int64.ofNat (v / 2 ^ (9 * k) % 512)).toBitVec.toNat = v / 2 ^ (9 * k) % 512 := by
    show (BitVec.ofNat 64 _).toNat = _
    rw [BitVec.toNat_ofNat]
    apply Nat.mod_eq_of_lt
    have := Nat.mod_lt (v / 2 ^ (9 * k)) (show 0 < 512 by decide)
    omega
  rw [e511, hor, Nat.and_two_pow_sub_one_eq_mod, Nat.shiftRight_eq_div_pow, Nat.mod_eq_of_lt (show v < 2 ^ 64 by omega)]
theorem amt64 (k : Nat) (hk : k < 7) : (Int32.toInt64 (Int32.ofNat (9 * k))) &&& 63 = Int64.ofNat (9 * k) := by
  match k, hk with
  | 0, _ => decide
  | 1, _ => decide
  | 2, _ => decide
  | 3, _ => decide
  | 4, _ => decide
  | 5, _ => decide
  | 6, _ => decide
theorem st64 (h s : Nat) (hs : s < 2147483648) : (512 : Int64) * Int64.ofNat h + Int32.toInt64 (Int32.ofNat s) = Int64.ofNat (512 * h + s) := by
  rw [Int32.toInt64_ofNat' (by have : Int32.maxValue.toInt = 2147483647 := by decide
                               omega), show (512 : Int64) = Int64.ofNat 512 from rfl, ← Int64.ofNat_mul, ← Int64.ofNat_add]
theorem to32 (m : Nat) : (Int64.ofNat m).toInt32 = Int32.ofNat m := Int64.toInt32_ofNat'
theorem inj64 {v w : Nat} (hv : v < 2 ^ 63) (hw : w < 2 ^ 63) (h : Int64.ofNat v = Int64.ofNat w) : v = w := by
  have := congrArg Int64.toInt h
  rw [Int64.toInt_ofNat_of_lt hv, Int64.toInt_ofNat_of_lt hw] at this
  omega
theorem hor_lt {S : Nat → Nat} (hS : ∀ k, S k < 512) : ∀ r, hor S r < 512 ^ r
  | 0 => by show (0 : Nat) < 1; decide
  | r + 1 => by
    have ih := hor_lt hS r
    have := hS (6 - r)
    show 512 * hor S r + S (6 - r) < 512 ^ (r + 1)
    rw [Nat.pow_succ]
    omega
theorem hor_dig {S : Nat → Nat} (hS : ∀ k, S k < 512) : ∀ r j, r ≤ 7 → j < r → hor S r / 512 ^ j % 512 = S (7 - r + j)
  | 0, j, _, hj => absurd hj (Nat.not_lt_zero _)
  | r + 1, 0, hr7, _ => by
    have := hS (6 - r)
    show (512 * hor S r + S (6 - r)) / 512 ^ 0 % 512 = _
    rw [Nat.pow_zero, Nat.div_one, show 7 - (r + 1) + 0 = 6 - r by omega]
    omega
  | r + 1, j + 1, hr7, hj => by
    have := hS (6 - r)
    show (512 * hor S r + S (6 - r)) / 512 ^ (j + 1) % 512 = _
    rw [Nat.pow_succ, Nat.mul_comm (512 ^ j) 512, ← Nat.div_div_eq_div_mul, show (512 * hor S r + S (6 - r)) / 512 = hor S r by omega, hor_dig hS r j (by omega) (by omega), show 7 - (r + 1) + (j + 1) = 7 - r + j by omega]
theorem hor_inj {S T : Nat → Nat} (hS : ∀ k, S k < 512) (hT : ∀ k, T k < 512) (h : hor S 7 = hor T 7) : ∀ k, k < 7 → S k = T k := by
  intro k hk
  have a := hor_dig hS 7 k (Nat.le_refl _) hk
  have b := hor_dig hT 7 k (Nat.le_refl _) hk
  rw [h, b] at a
  simpa using a.symm
theorem hor_cg {S T : Nat → Nat} (h : ∀ k, k < 7 → S k = T k) : ∀ r, r ≤ 7 → hor S r = hor T r
  | 0, _ => rfl
  | r + 1, hr7 => by
    show 512 * hor S r + S (6 - r) = 512 * hor T r + T (6 - r)
    rw [hor_cg h r (by omega), h (6 - r) (by omega)]
theorem pow9 (k : Nat) : 2 ^ (9 * k) = 512 ^ k := by rw [Nat.pow_mul]
end
