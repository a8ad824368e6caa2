/-! ===== collects of the reference ===== -/
section
variable {M : xM} {D E X Y Z T X' E' E'' X'' : xT} {C : xC} {R N : Nat → Int32} {fu b d L s o t k n m i j p q f l w nb nw a : Nat} {x y z v u : Int32} {nt : Bool}
theorem bit6_dec : ∀ o : Fin 64, ∀ s : Fin 6, ((i3 o >>> (i3 s &&& 31)) &&& 1) = i3 (o / 2 ^ (s : Nat) % 2) := by decide +kernel
theorem or6_dec : ∀ o : Fin 64, ∀ s : Fin 6, (o : Nat) < 2 ^ (s : Nat) → (i3 o ||| 1 <<< (i3 s &&& 31)) = i3 (o + 2 ^ (s : Nat)) := by decide +kernel
theorem or0_dec : ∀ o : Fin 64, (i3 o ||| 0) = i3 o := by decide +kernel
/-- which slots of a block are live, as bits -/
def lvN (g : Nat → Bool) : Nat → Nat
  | 0 => 0
  | i + 1 => if g i then lvN g i + 2 ^ i else lvN g i
theorem lvN_lt (g : Nat → Bool) : ∀ i, lvN g i < 2 ^ i
  | 0 => Nat.zero_lt_one
  | i + 1 => by
    have := lvN_lt g i
    unfold lvN
    rw [Nat.pow_succ]
    split <;> omega
theorem lvN_bit (g : Nat → Bool) : ∀ {i j : Nat}, j < i → lvN g i / 2 ^ j % 2 = if g j then 1 else 0
  | 0, j, h => absurd h (Nat.not_lt_zero _)
  | i + 1, j, h => by
    rcases Nat.lt_or_ge j i with c | c
    · have ih := lvN_bit g c
      unfold lvN
      by_cases e : g i = true
      · rw [if_pos e]
        obtain ⟨r, rfl⟩ : ∃ r, i = j + 1 + r := ⟨i - j - 1, by omega⟩
        have e2 : 2 ^ (j + 1 + r) = 2 ^ j * (2 * 2 ^ r) := by rw [Nat.pow_add, Nat.pow_succ]; rw [Nat.mul_assoc]
        rw [e2, Nat.add_mul_div_left _ _ (Nat.two_pow_pos j)]
        rw [Nat.add_mul_mod_self_left]
        exact ih
      · rw [if_neg e]; exact ih
    · have e : j = i := by omega
      subst e
      have hl := lvN_lt g j
      unfold lvN
      by_cases e : g j = true
      · rw [if_pos e, if_pos e]
        have : (lvN g j + 2 ^ j) / 2 ^ j = 1 := by
          rw [Nat.add_div_right _ (Nat.two_pow_pos j), Nat.div_eq_of_lt hl]
        rw [this]
      · rw [if_neg e, if_neg e, Nat.div_eq_of_lt hl]
theorem pow6 (h : n ≤ 6) : 2 ^ n ≤ 64 := Nat.le_trans (Nat.pow_le_pow_right (by decide) h) (by decide)
theorem t_liveBits (h : Lay M) (hM : MCfg C X) (hb : b ≤ 2140) (hB : CB C) (hR : Rel C b D X) (hA : InA L D) (hN : InN C D) (hS : InS C D) (hC : InC C D) (hL : Lk D X) (hf : 100 < fu) (hk : k < C 0 0) :
    L_X12_collects_22 fu fu 0 (i3 b) (i3 k) 0 0 (mmb X M) = L_X12_collects_68 fu fu 0 (i3 b) (i3 k) (i3 (lvN (fun j => liveB D (k * C 0 1 + j)) (C 0 1))) 0 (mmb X M) := by
  have h61 := hB.2.1
  have h6 := hB.1
  have h36 := tot36 hB
  have hT : tot C = C 0 0 * C 0 1 := rfl
  have hBk := blk (nw := C 0 1) hk
  have hS2 : C 0 1 * k = k * C 0 1 := Nat.mul_comm _ _
  refine lpc (fun n i x => L_X12_collects_22 fu n 0 (i3 b) (i3 k) x (i3 i) (mmb X M)) (fun i => i3 (lvN (fun j => liveB D (k * C 0 1 + j)) i)) (C 0 1) _ ?_ ?_ fu 0 (by omega) (by omega)
  · intro n i hi
    show L_X12_collects_22 fu (n + 1) 0 (i3 b) (i3 k) (i3 (lvN (fun j => liveB D (k * C 0 1 + j)) i)) (i3 i) (mmb X M) = L_X12_collects_22 fu n 0 (i3 b) (i3 k) (i3 (lvN (fun j => liveB D (k * C 0 1 + j)) (i + 1))) (i3 (i + 1)) (mmb X M)
    have hl := lvN_lt (fun j => liveB D (k * C 0 1 + j)) i
    have hp := pow6 (n := i) (by omega)
    rw [show lvN (fun j => liveB D (k * C 0 1 + j)) (i + 1) = if liveB D (k * C 0 1 + i) then lvN (fun j => liveB D (k * C 0 1 + j)) i + 2 ^ i else lvN (fun j => liveB D (k * C 0 1 + j)) i from rfl]
    generalize lvN (fun j => liveB D (k * C 0 1 + j)) i = o' at hl ⊢
    have q1 := or6_dec ⟨o', by omega⟩ ⟨i, by omega⟩ hl
    have q0 := or0_dec ⟨o', by omega⟩
    simp only at q1 q0
    conv => lhs; unfold L_X12_collects_22
    rw [t_wide h hM, Option.bind_some, if_neg (by rw [i3_le (by omega) (by omega)]; omega), t_wide h hM, Option.bind_some]
    simp only [i3_mul, hS2, i3_add, i3_add1]
    rw [t_isLive h hb hB hR hA hN hS hC hL hf (by omega), Option.bind_some]
    cases liveB D (k * C 0 1 + i) with
    | false =>
      rw [if_pos (show (bz false, mmb X M).1 = 0 from rfl), q0]
      rfl
    | true =>
      rw [if_neg (show ¬ (bz true, mmb X M).1 = 0 from (by decide : ¬ bz true = 0)), q1]
      rfl
  · intro n
    show L_X12_collects_22 fu (n + 1) 0 (i3 b) (i3 k) (i3 (lvN (fun j => liveB D (k * C 0 1 + j)) (C 0 1))) (i3 (C 0 1)) (mmb X M) = _
    conv => lhs; unfold L_X12_collects_22
    rw [t_wide h hM, Option.bind_some, if_pos (Int32.le_refl _)]
/-- the row of a slot in the reference's hand -/
def handX (X : xT) (lo n : Nat) : xT := fun j k => if j = 96 ∧ k < n then X 95 (lo + k) else X j k
theorem t_hand (h : Lay M) (hM : MCfg C X) (hb : b ≤ 2140) (hB : CB C) (hf : 100 < fu) (hk : k < C 0 0) (hi : i < C 0 1) {K : Nat → Int32 → Int32 → Int32 → Int32 → xM → Option (Int32 × xM)} :
    L_X12_collects_90 fu K fu 0 (i3 b) (i3 k) z (i3 i) 0 (mmb X M) = (F_X12_puts fu 0 (i3 b) (mmb (handX X (b + 34 + 13 * (k * C 0 1 + i)) 13) M)).bind fun p_1 => if ¬ p_1.1 = 0 then K 0 (i3 b) (i3 k) z (i3 (i + 1)) p_1.2 else some (-2, p_1.2) := by
  have h61 := hB.2.1
  have h6 := hB.1
  have h36 := tot36 hB
  have hT : tot C = C 0 0 * C 0 1 := rfl
  have hBk := blk (nw := C 0 1) hk
  have hS2 : C 0 1 * k = k * C 0 1 := Nat.mul_comm _ _
  have q := lpc (fun n j (Y : xT) => L_X12_collects_90 fu K n 0 (i3 b) (i3 k) z (i3 i) (i3 j) (mmb Y M)) (fun j => handX X (b + 34 + 13 * (k * C 0 1 + i)) j) 13 ((F_X12_puts fu 0 (i3 b) (mmb (handX X (b + 34 + 13 * (k * C 0 1 + i)) 13) M)).bind fun p_1 => if ¬ p_1.1 = 0 then K 0 (i3 b) (i3 k) z (i3 (i + 1)) p_1.2 else some (-2, p_1.2)) ?_ ?_ fu 0 (by omega) (by omega)
  · have e0 : handX X (b + 34 + 13 * (k * C 0 1 + i)) 0 = X := by funext j' k'; unfold handX; rw [if_neg (by omega)]
    simp only [e0] at q
    exact q
  · intro n j hj
    show L_X12_collects_90 fu K (n + 1) 0 (i3 b) (i3 k) z (i3 i) (i3 j) (mmb (handX X (b + 34 + 13 * (k * C 0 1 + i)) j) M) = L_X12_collects_90 fu K n 0 (i3 b) (i3 k) z (i3 i) (i3 (j + 1)) (mmb (handX X (b + 34 + 13 * (k * C 0 1 + i)) (j + 1)) M)
    have hM2 : MCfg C (handX X (b + 34 + 13 * (k * C 0 1 + i)) j) := MCfg_90 hM (fun k' => by unfold handX; rw [if_neg (by omega)])
    have e95 : handX X (b + 34 + 13 * (k * C 0 1 + i)) j 95 (b + 34 + 13 * (k * C 0 1 + i) + j) = X 95 (b + 34 + 13 * (k * C 0 1 + i) + j) := by unfold handX; rw [if_neg (by omega)]
    have step : up (handX X (b + 34 + 13 * (k * C 0 1 + i)) j) 96 j (X 95 (b + 34 + 13 * (k * C 0 1 + i) + j)) = handX X (b + 34 + 13 * (k * C 0 1 + i)) (j + 1) := by
      funext j' k'
      rw [up_at]
      unfold handX
      by_cases c : j' = 96 ∧ k' = j
      · rw [if_pos c, if_pos (by omega), c.2]
      · rw [if_neg c]
        by_cases c2 : j' = 96 ∧ k' < j
        · rw [if_pos c2, if_pos (by omega)]
        · rw [if_neg c2, if_neg (by omega)]
    conv => lhs; unfold L_X12_collects_90
    rw [if_neg (by rw [i3_lle (by omega) (by decide)]; exact Nat.not_le.mpr hj), t_wide h hM2, Option.bind_some]
    simp only [i3_mul, hS2, i3_add]
    rw [t_slotAt, Option.bind_some]
    simp (disch := first | assumption | omega) only [l12_0_1, l12_0_4, l12_0_5, l12_0_6, l12_0_9, l12_0_10, l12_0_11, l12_0_13, l12_0_14, l12_0_15, l12_0_16, l12_0_17, l12_0_18, l12_0_19, l12_0_23, l12_0_24, l12_0_25, l12_0_27, n20_83, n20_84, n20_85, n20_86, n20_87, n20_88, n20_89, n20_90, n20_91, n20_92, n20_93, n20_94, n20_95, n20_96, n20_97, n20_98, n21_2, n21_3, n21_4, n21_5, n21_6, n22_20, m_0, m_1, m_87, m_88, m_89, m_90, m_91, m_92, m_93, m_94, m_95, m_96, m_97, m_98, p_0, p_1, p_87, p_88, p_89, p_90, p_91, p_92, p_93, p_94, p_95, p_96, p_97, p_98, gR_mmb, gN_mmb, gL_mmb, i3_add1, i3_add, i3_mul, i3_addl, i3_mull, i3_ladd, i3_lmul, i3_div4, i3_le, i3_lt, i3_eq, i3_lel, i3_lle, i3_ltl, i3_llt, i3_eql, i3_leq, i3_nl, i3_0l, i3_nn, n1_lt, n1_le, xi_i3, xin_i3, xi_lit, xin_lit, xb0, xb1, gd_t, nz4, Option.bind_some, gR_emb, gN_emb, gL_emb, ↓reduceIte, if_true, if_false, not_true_eq_false, not_false_eq_true, eq_self, Nat.not_lt_zero, Nat.zero_le, true_or, or_true, false_or, or_false, true_and, and_true, false_and, and_false, e95]
    rw [step]
  · intro n
    show L_X12_collects_90 fu K (n + 1) 0 (i3 b) (i3 k) z (i3 i) (i3 13) (mmb (handX X (b + 34 + 13 * (k * C 0 1 + i)) 13) M) = _
    conv => lhs; unfold L_X12_collects_90
    rw [if_pos (by decide)]
    simp only [i3_add1]
/-- behind the wiping of block k -/
def wipeX (X : xT) (b lo n k : Nat) : xT := up (up (fun j q => if j = 95 ∧ lo ≤ q ∧ q < lo + n then 0 else X j q) 95 (b + 8 + k) (X 95 (b + 8 + k) + 1)) 95 (b + 7) (X 95 (b + 7) + 1)
theorem t_wipe (h : Lay M) (hM : MCfg C X) (hb : b ≤ 2140) (hB : CB C) (hf : 100 < fu) (hk : k < C 0 0) :
    L_X12_collects_156 fu fu 0 (i3 b) (i3 k) 0 (mmb X M) = some (i3 k, mmb (wipeX X b (b + 34 + 13 * (k * C 0 1)) (13 * C 0 1) k) M) := by
  have h61 := hB.2.1
  have h6 := hB.1
  have h36 := tot36 hB
  have hT : tot C = C 0 0 * C 0 1 := rfl
  have hBk := blk (nw := C 0 1) hk
  have hS2 : C 0 1 * k = k * C 0 1 := Nat.mul_comm _ _
  have q := lpc (fun n j (Y : xT) => L_X12_collects_156 fu n 0 (i3 b) (i3 k) (i3 j) (mmb Y M)) (fun j => (fun j' q => if j' = 95 ∧ (b + 34 + 13 * (k * C 0 1)) ≤ q ∧ q < (b + 34 + 13 * (k * C 0 1)) + j then 0 else X j' q)) (13 * C 0 1) (some (i3 k, mmb (wipeX X b (b + 34 + 13 * (k * C 0 1)) (13 * C 0 1) k) M)) ?_ ?_ fu 0 (by omega) (by omega)
  · have e0 : (fun j' q => if j' = 95 ∧ (b + 34 + 13 * (k * C 0 1)) ≤ q ∧ q < (b + 34 + 13 * (k * C 0 1)) + 0 then 0 else X j' q : xT) = X := by funext j' k'; rw [if_neg (by omega)]
    simp only [e0] at q
    exact q
  · intro n j hj
    show L_X12_collects_156 fu (n + 1) 0 (i3 b) (i3 k) (i3 j) (mmb _ M) = L_X12_collects_156 fu n 0 (i3 b) (i3 k) (i3 (j + 1)) (mmb _ M)
    have hM2 : MCfg C (fun j' q => if j' = 95 ∧ (b + 34 + 13 * (k * C 0 1)) ≤ q ∧ q < (b + 34 + 13 * (k * C 0 1)) + j then 0 else X j' q) := MCfg_90 hM (fun k' => by rw [if_neg (by omega)])
    conv => lhs; unfold L_X12_collects_156
    rw [t_wide h hM2, Option.bind_some]
    simp only [i3_lmul]
    rw [if_neg (by rw [i3_le (by omega) (by omega)]; exact Nat.not_le.mpr hj), t_wide h hM2, Option.bind_some]
    simp only [i3_mul, hS2]
    rw [t_slotAt, Option.bind_some]
    simp (disch := first | assumption | omega) only [l12_0_1, l12_0_4, l12_0_5, l12_0_6, l12_0_9, l12_0_10, l12_0_11, l12_0_13, l12_0_14, l12_0_15, l12_0_16, l12_0_17, l12_0_18, l12_0_19, l12_0_23, l12_0_24, l12_0_25, l12_0_27, n20_83, n20_84, n20_85, n20_86, n20_87, n20_88, n20_89, n20_90, n20_91, n20_92, n20_93, n20_94, n20_95, n20_96, n20_97, n20_98, n21_2, n21_3, n21_4, n21_5, n21_6, n22_20, m_0, m_1, m_87, m_88, m_89, m_90, m_91, m_92, m_93, m_94, m_95, m_96, m_97, m_98, p_0, p_1, p_87, p_88, p_89, p_90, p_91, p_92, p_93, p_94, p_95, p_96, p_97, p_98, gR_mmb, gN_mmb, gL_mmb, i3_add1, i3_add, i3_mul, i3_addl, i3_mull, i3_ladd, i3_lmul, i3_div4, i3_le, i3_lt, i3_eq, i3_lel, i3_lle, i3_ltl, i3_llt, i3_eql, i3_leq, i3_nl, i3_0l, i3_nn, n1_lt, n1_le, xi_i3, xin_i3, xi_lit, xin_lit, xb0, xb1, gd_t, nz4, Option.bind_some, gR_emb, gN_emb, gL_emb, ↓reduceIte, if_true, if_false, not_true_eq_false, not_false_eq_true, eq_self, Nat.not_lt_zero, Nat.zero_le, true_or, or_true, false_or, or_false, true_and, and_true, false_and, and_false]
    congr 2
    funext j' k'
    rw [up_at]
    by_cases c : j' = 95 ∧ k' = b + 34 + 13 * (k * C 0 1) + j
    · rw [if_pos c, if_pos (by omega)]
    · rw [if_neg c]
      by_cases c2 : j' = 95 ∧ b + 34 + 13 * (k * C 0 1) ≤ k' ∧ k' < b + 34 + 13 * (k * C 0 1) + j
      · rw [if_pos c2, if_pos (by omega)]
      · rw [if_neg c2, if_neg (by omega)]
  · intro n
    show L_X12_collects_156 fu (n + 1) 0 (i3 b) (i3 k) (i3 (13 * C 0 1)) (mmb _ M) = _
    have hM2 : MCfg C (fun j' q => if j' = 95 ∧ (b + 34 + 13 * (k * C 0 1)) ≤ q ∧ q < (b + 34 + 13 * (k * C 0 1)) + 13 * C 0 1 then 0 else X j' q) := MCfg_90 hM (fun k' => by rw [if_neg (by omega)])
    conv => lhs; unfold L_X12_collects_156
    rw [t_wide h hM2, Option.bind_some]
    simp only [i3_lmul]
    rw [if_pos (Int32.le_refl _)]
    have r8 : (if b + 34 + 13 * (k * C 0 1) ≤ b + 8 + k ∧ b + 8 + k < b + 34 + 13 * (k * C 0 1) + 13 * C 0 1 then (0 : Int32) else X 95 (b + 8 + k)) = X 95 (b + 8 + k) := if_neg (by omega)
    have r7 : (if 95 = 95 ∧ b + 34 + 13 * (k * C 0 1) ≤ b + 7 ∧ b + 7 < b + 34 + 13 * (k * C 0 1) + 13 * C 0 1 then (0 : Int32) else X 95 (b + 7)) = X 95 (b + 7) := if_neg (by omega)
    simp (disch := first | assumption | omega) only [l12_0_1, l12_0_4, l12_0_5, l12_0_6, l12_0_9, l12_0_10, l12_0_11, l12_0_13, l12_0_14, l12_0_15, l12_0_16, l12_0_17, l12_0_18, l12_0_19, l12_0_23, l12_0_24, l12_0_25, l12_0_27, n20_83, n20_84, n20_85, n20_86, n20_87, n20_88, n20_89, n20_90, n20_91, n20_92, n20_93, n20_94, n20_95, n20_96, n20_97, n20_98, n21_2, n21_3, n21_4, n21_5, n21_6, n22_20, m_0, m_1, m_87, m_88, m_89, m_90, m_91, m_92, m_93, m_94, m_95, m_96, m_97, m_98, p_0, p_1, p_87, p_88, p_89, p_90, p_91, p_92, p_93, p_94, p_95, p_96, p_97, p_98, gR_mmb, gN_mmb, gL_mmb, i3_add1, i3_add, i3_mul, i3_addl, i3_mull, i3_ladd, i3_lmul, i3_div4, i3_le, i3_lt, i3_eq, i3_lel, i3_lle, i3_ltl, i3_llt, i3_eql, i3_leq, i3_nl, i3_0l, i3_nn, n1_lt, n1_le, xi_i3, xin_i3, xi_lit, xin_lit, xb0, xb1, gd_t, nz4, Option.bind_some, gR_emb, gN_emb, gL_emb, ↓reduceIte, if_true, if_false, not_true_eq_false, not_false_eq_true, eq_self, Nat.not_lt_zero, Nat.zero_le, true_or, or_true, false_or, or_false, true_and, and_true, false_and, and_false, r8]
    rw [up_ne (j := 95) (k := b + 8 + k) (j' := 95) (k' := b + 7) (by omega), r7]
    rfl
end
