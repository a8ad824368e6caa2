/-! ===== tokens: values ===== -/
/-- a number's value -/
def nuN (f : Nat → Nat) (s : Nat) : Nat → Nat
  | 0 => 0
  | k + 1 => nuN f s k * 10 + (f (s + k) - 48)
section
variable {M M' M1 N N' N0 : xM} {X Y Z Y' : xT} {f : Nat → Nat} {fu l n m i j k t p q s e c w a b T : Nat} {v u : Int32} {x y : Int64} {ls ls' : List Nat}
theorem enc_s : enc b (ls ++ [a]) = b * enc b ls + a := by unfold enc; rw [List.foldl_append]; rfl
theorem enc_0 : enc b [] = 0 := rfl
theorem ltr_s : ltr f s (k + 1) = ltr f s k ++ [f (s + k) - 96] := by unfold ltr; rw [List.range_succ, List.map_append]; rfl
theorem enc_lt (hb : 27 ≤ b) : ∀ n (l : List Nat), l.length ≤ n → (∀ x, x ∈ l → 1 ≤ x ∧ x ≤ 26) → enc b l < b ^ l.length := by
  intro n
  induction n with
  | zero =>
    intro l hl _
    have : l = [] := List.eq_nil_of_length_eq_zero (by omega)
    subst this
    exact Nat.lt_of_lt_of_le (by decide : 0 < 1) (Nat.le_refl _)
  | succ n ih =>
    intro l hl hx
    rcases List.eq_nil_or_concat l with rfl | ⟨L, x, rfl⟩
    · exact Nat.lt_of_lt_of_le (by decide : 0 < 1) (Nat.le_refl _)
    · rw [List.concat_eq_append] at hx hl ⊢
      have hll : (L ++ [x]).length = L.length + 1 := by rw [List.length_append]; rfl
      have h1 := ih L (by omega) (fun y hy => hx y (List.mem_append_left _ hy))
      have h2 := hx x (List.mem_append_right _ (List.mem_cons_self))
      rw [enc_s, hll, Nat.pow_succ, Nat.mul_comm (b ^ L.length) b]
      have h3 : b * enc b L + b ≤ b * b ^ L.length := by
        have := Nat.mul_le_mul_left b (Nat.succ_le_of_lt h1)
        rw [Nat.mul_succ] at this
        exact this
      omega
theorem enc_inj (hb : 27 ≤ b) : ∀ n (l l' : List Nat), l.length ≤ n → (∀ x, x ∈ l → 1 ≤ x ∧ x ≤ 26) → (∀ x, x ∈ l' → 1 ≤ x ∧ x ≤ 26) → enc b l = enc b l' → l = l' := by
  intro n
  have hpos : ∀ (L : List Nat) (x : Nat), 1 ≤ x → 0 < enc b (L ++ [x]) := fun L x hx => by rw [enc_s]; omega
  induction n with
  | zero =>
    intro l l' hl _ hx' h
    have : l = [] := List.eq_nil_of_length_eq_zero (by omega)
    subst this
    rcases List.eq_nil_or_concat l' with rfl | ⟨L, x, rfl⟩
    · rfl
    · rw [List.concat_eq_append] at h hx'
      have := hpos L x (hx' x (List.mem_append_right _ (List.mem_cons_self))).1
      rw [← h] at this
      exact absurd this (Nat.lt_irrefl 0)
  | succ n ih =>
    intro l l' hl hx hx' h
    rcases List.eq_nil_or_concat l with rfl | ⟨L, x, rfl⟩
    · rcases List.eq_nil_or_concat l' with rfl | ⟨L, x, rfl⟩
      · rfl
      · rw [List.concat_eq_append] at h hx'
        have := hpos L x (hx' x (List.mem_append_right _ (List.mem_cons_self))).1
        rw [← h] at this
        exact absurd this (Nat.lt_irrefl 0)
    · rw [List.concat_eq_append] at h hx hl ⊢
      have g1 := hx x (List.mem_append_right _ (List.mem_cons_self))
      rcases List.eq_nil_or_concat l' with rfl | ⟨L', x', rfl⟩
      · have := hpos L x g1.1
        rw [h] at this
        exact absurd this (Nat.lt_irrefl 0)
      · rw [List.concat_eq_append] at h hx' ⊢
        have g2 := hx' x' (List.mem_append_right _ (List.mem_cons_self))
        rw [enc_s, enc_s] at h
        have hm : x = x' := by
          have := congrArg (· % b) h
          simp only [Nat.mul_add_mod] at this
          rw [Nat.mod_eq_of_lt (by omega), Nat.mod_eq_of_lt (by omega)] at this
          exact this
        subst hm
        have hd : enc b L = enc b L' := by
          have : b * enc b L = b * enc b L' := by omega
          exact Nat.eq_of_mul_eq_mul_left (by omega) this
        have hll : (L ++ [x]).length = L.length + 1 := by rw [List.length_append]; rfl
        rw [ih L L' (by omega) (fun y hy => hx y (List.mem_append_left _ hy)) (fun y hy => hx' y (List.mem_append_left _ hy)) hd]
theorem lt64 (h : c < 97 + 26 + 4) (h2 : 97 ≤ c) : Int32.toInt64 (i3 c - 96) = Int64.ofNat (c - 96) := by
  rw [show (i3 c - 96 : Int32) = i3 (c - 96) from i3_sub (b := 96) (by omega)]
  exact l_i64 (by omega)
theorem nm_enc : ∀ k, (∀ i, i < k → isLt (f (s + i)) = true) → nmF f s k = Int64.ofNat (enc 32 (ltr f s k))
  | 0, _ => rfl
  | k + 1, h => by
    have hr := isLt_r (h k (by omega))
    have ih := nm_enc k (fun i hi => h i (by omega))
    show nmF f s k * 32 + Int32.toInt64 (i3 (f (s + k)) - 97 + 1) = _
    have e1 : (i3 (f (s + k)) - 97 + 1 : Int32) = i3 (f (s + k) - 96) := by
      rw [show (i3 (f (s + k)) - 97 : Int32) = i3 (f (s + k) - 97) from i3_sub (b := 97) (by omega), i3_add1]
      congr 1; omega
    rw [ih, e1, l_i64 (by omega), ltr_s, enc_s, Nat.mul_comm, Int64.ofNat_add, Int64.ofNat_mul]
    rfl
theorem wv_enc : ∀ k, k ≤ 8 → (∀ i, i < k → isLt (f (s + i)) = true) → wvF f s k = Int64.ofNat (enc 37 (ltr f s k))
  | 0, _, _ => rfl
  | k + 1, hk, h => by
    have hr := isLt_r (h k (by omega))
    have ih := wv_enc k (by omega) (fun i hi => h i (by omega))
    show (if 8 ≤ k then wvF f s k else 37 * wvF f s k + Int32.toInt64 (i3 (f (s + k)) - 96)) = _
    rw [if_neg (by omega), ih, lt64 (by omega) (by omega), ltr_s, enc_s, Int64.ofNat_add, Int64.ofNat_mul]
    rfl
theorem nu_lt : ∀ k, (∀ i, i < k → isDg (f (s + i)) = true) → nuN f s k < 10 ^ k
  | 0, _ => Nat.lt_of_lt_of_le (by decide : 0 < 1) (Nat.le_refl _)
  | k + 1, h => by
    have hr := isDg_r (h k (by omega))
    have ih := nu_lt k (fun i hi => h i (by omega))
    show nuN f s k * 10 + (f (s + k) - 48) < 10 ^ (k + 1)
    rw [Nat.pow_succ]
    omega
theorem nu_i3 : ∀ k, (∀ i, i < k → isDg (f (s + i)) = true) → nuF f s k = i3 (nuN f s k)
  | 0, _ => rfl
  | k + 1, h => by
    have hr := isDg_r (h k (by omega))
    have ih := nu_i3 k (fun i hi => h i (by omega))
    show nuF f s k * 10 + (i3 (f (s + k)) - 48) = _
    rw [ih, show (i3 (f (s + k)) - 48 : Int32) = i3 (f (s + k) - 48) from i3_sub (b := 48) (by omega), show (10 : Int32) = i3 10 from rfl, i3_mul, i3_add]
    rfl
theorem nv_nu : ∀ k, k ≤ 4 → (∀ i, i < k → isDg (f (s + i)) = true) → nvF f s k = Int64.ofNat (nuN f s k)
  | 0, _, _ => rfl
  | k + 1, hk, h => by
    have hr := isDg_r (h k (by omega))
    have ih := nv_nu k (by omega) (fun i hi => h i (by omega))
    show (if 4 ≤ k then nvF f s k else 10 * nvF f s k + Int32.toInt64 (i3 (f (s + k))) - 48) = _
    have e : (48 : Int64) = Int64.ofNat 48 := rfl
    rw [if_neg (by omega), ih, l_i64 (by omega), show (10 : Int64) = Int64.ofNat 10 from rfl, ← Int64.ofNat_mul, ← Int64.ofNat_add, e, ← Int64.ofNat_sub _ _ (by omega)]
    show Int64.ofNat _ = Int64.ofNat (nuN f s k * 10 + (f (s + k) - 48))
    congr 1; omega
/-- a word's token -/
theorem tk_w (h : tkT f t s = 1) : s < t ∧ isLt (f s) = true ∧ rnE isLt f t s - s ≤ 8 ∧ tkE f t s = rnE isLt f t s ∧ (∀ i, i < rnE isLt f t s - s → isLt (f (s + i)) = true) ∧ tkV f t s = Int64.ofNat (enc 37 (tkL f t s)) ∧ nmF f s (tkE f t s - s) = Int64.ofNat (enc 32 (tkL f t s)) ∧ (tkL f t s).length ≤ 8 ∧ ∀ x, x ∈ tkL f t s → 1 ≤ x ∧ x ≤ 26 := by
  have hst : s < t := by
    by_cases q : s < t
    · exact q
    · unfold tkT at h; rw [if_neg q] at h; cases h
  have hL : isLt (f s) = true := by
    by_cases q : isLt (f s) = true
    · exact q
    · unfold tkT at h
      rw [if_pos hst, if_neg q] at h
      (repeat' split at h) <;> cases h
  have h8 : rnE isLt f t s - s ≤ 8 := by
    unfold tkT at h
    rw [if_pos hst, if_pos hL] at h
    by_cases q : 8 < rnE isLt f t s - s
    · rw [if_pos q] at h; cases h
    · omega
  have hE : tkE f t s = rnE isLt f t s := by unfold tkE; rw [if_pos hst, if_pos hL]
  have hi : ∀ i, i < rnE isLt f t s - s → isLt (f (s + i)) = true := fun i hi => rnE_in (p := s) (t := t) (Nat.le_of_lt hst) (by omega) (by omega)
  refine ⟨hst, hL, h8, hE, hi, ?_, ?_, by unfold tkL; rw [ltr_len]; exact h8, ltr_in hi⟩
  · unfold tkV tkL
    rw [if_pos hL]
    exact wv_enc _ h8 hi
  · rw [hE]
    exact nm_enc _ hi
/-- a number's token -/
theorem tk_n (h : tkT f t s = 2) : s < t ∧ tkV f t s = Int64.ofNat (nuN f s (tkE f t s - s)) ∧ nuF f s (tkE f t s - s) = i3 (nuN f s (tkE f t s - s)) ∧ nuN f s (tkE f t s - s) ≤ 9999 := by
  have hst : s < t := by
    by_cases q : s < t
    · exact q
    · unfold tkT at h; rw [if_neg q] at h; cases h
  have hL : ¬ isLt (f s) = true := fun q => by
    unfold tkT at h
    rw [if_pos hst, if_pos q] at h
    (repeat' split at h) <;> cases h
  have hD : isDg (f s) = true := by
    by_cases q : isDg (f s) = true
    · exact q
    · unfold tkT at h
      rw [if_pos hst, if_neg hL, if_neg q] at h
      (repeat' split at h) <;> cases h
  have h8 : rnE isDg f t s - s ≤ 4 := by
    unfold tkT at h
    rw [if_pos hst, if_neg hL, if_pos hD] at h
    by_cases q : 4 < rnE isDg f t s - s
    · rw [if_pos q] at h; cases h
    · omega
  have hE : tkE f t s = rnE isDg f t s := by unfold tkE; rw [if_pos hst, if_neg hL, if_pos hD]
  have hi : ∀ i, i < rnE isDg f t s - s → isDg (f (s + i)) = true := fun i hi => rnE_in (p := s) (t := t) (Nat.le_of_lt hst) (by omega) (by omega)
  have hlt := nu_lt _ hi
  have hp : (10 : Nat) ^ (rnE isDg f t s - s) ≤ 10 ^ 4 := Nat.pow_le_pow_right (by omega) h8
  rw [hE]
  refine ⟨hst, ?_, nu_i3 _ hi, by omega⟩
  unfold tkV
  rw [if_neg hL, if_pos hD]
  exact nv_nu _ h8 hi
/-- a sign's token -/
theorem tk_s (h : tkT f t s = 3) : s < t ∧ tkV f t s = Int32.toInt64 (i3 (f s)) := by
  have hst : s < t := by
    by_cases q : s < t
    · exact q
    · unfold tkT at h; rw [if_neg q] at h; cases h
  have hL : ¬ isLt (f s) = true := fun q => by
    unfold tkT at h
    rw [if_pos hst, if_pos q] at h
    (repeat' split at h) <;> cases h
  have hD : ¬ isDg (f s) = true := fun q => by
    unfold tkT at h
    rw [if_pos hst, if_neg hL, if_pos q] at h
    (repeat' split at h) <;> cases h
  refine ⟨hst, ?_⟩
  unfold tkV
  rw [if_neg hL, if_neg hD]
end
