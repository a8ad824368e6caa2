/-! ===== a start, a section moved, what a page says: the reference ===== -/
/-- a disk as it starts -/
def startT (C : xC) (D : xT) : xT := fun j k =>
  if j = 0 ∧ k < 6 then 0 else if j = 1 ∧ k < 6 then i3 (C 0 1) else if j = 2 ∧ k < 36 then 0 else if (3 ≤ j ∧ j ≤ 6) ∧ k < 36 then -1 else if j = 9 ∧ k < 20 then 0 else if (j = 11 ∨ j = 12) ∧ k < 5 then 0
  else if j = 14 ∧ k = 1 then 1 else if j = 14 ∧ (k = 2 ∨ k = 3 ∨ k = 10 ∨ k = 11) then 0
  else if j = 15 ∧ k = 0 then i3 (C 0 0) else if j = 15 ∧ k = 1 then i3 (C 0 1) else if j = 15 ∧ (k = 2 ∨ k = 3) then i3 (C 0 0 * C 0 1) else if j = 15 ∧ k = 4 then -1 else if j = 15 ∧ (k = 5 ∨ k = 6) then 0 else D j k
/-- a section of the reference as it starts -/
def stX (X : xT) (b : Nat) : xT := fun j k => if j = 0 ∧ k = 22 then -1 else if j = 95 ∧ k = b + 1 then -1 else if j = 95 ∧ k = b + 2 then 1 else if j = 95 ∧ b ≤ k ∧ k < b + 502 then 0 else X j k
/-- a section moved -/
def mvX (X : xT) (p q n : Nat) : xT := fun j k => if j = 0 ∧ k = 22 then -1 else if j = 95 ∧ q ≤ k ∧ k < q + n then X 95 (p + (k - q)) else X j k
/-- what page a says -/
def saysT (C : xC) (D : xT) (a : Nat) : Int32 := if D 9 a = 0 then -1 else match lst (fun s => decide (D 2 s = 1) && decide (D 3 s = D 9 a)) (tot C) with | some s => D 6 s | none => -1
section
variable {M : xM} {D E X Y Z T N X' E' E0 Tc : xT} {C : xC} {R G G' : Nat → Int32} {fu b d L L' s o t k n m i j p q f l w nb nw a r g c e B K P Q : Nat} {x y z v u : Int32} {nt : Bool}
theorem t_starts (h : Lay M) (hb : b ≤ 2140) (hf : 600 < fu) : F_X12_starts fu 0 (i3 b) (mmb X M) = some (mmb (stX X b) M) := by
  unfold F_X12_starts
  simp only [p_0]
  have key := lpc (fun n i (Y : xT) => L_X12_starts_7 fu n 0 (i3 b) (i3 i) (mmb Y M)) (fun i => (fun j k => if j = 95 ∧ b ≤ k ∧ k < b + i then 0 else up X 0 22 (-1) j k)) 502 (some (mmb (stX X b) M)) ?_ ?_ fu 0 (by omega) (by omega)
  · have g0 : (fun j k => if j = 95 ∧ b ≤ k ∧ k < b + 0 then 0 else up X 0 22 (-1) j k : xT) = up X 0 22 (-1) := by funext j k; rw [if_neg (by omega)]
    simp only [g0] at key; exact key
  · intro n i hi
    show L_X12_starts_7 fu (n + 1) 0 (i3 b) (i3 i) (mmb _ M) = L_X12_starts_7 fu n 0 (i3 b) (i3 (i + 1)) (mmb _ M)
    conv => lhs; unfold L_X12_starts_7
    rw [if_neg (fun q => by have := (i3_le (a := 502) (by omega) (by omega)).mp q; omega), gr17 h]
    simp only [Option.bind_some, i3_add]
    rw [gd95 h (by omega), xi_i3 (by omega)]
    simp only [p_95, i3_add1]
    congr 2
    funext j k
    rw [up_at]
    by_cases c : j = 95 ∧ k = b + i
    · rw [if_pos c, if_pos (by omega)]
    · rw [if_neg c]
      by_cases c2 : j = 95 ∧ b ≤ k ∧ k < b + i
      · rw [if_pos c2, if_pos (by omega)]
      · rw [if_neg c2, if_neg (by omega)]
  · intro n
    show L_X12_starts_7 fu (n + 1) 0 (i3 b) (i3 502) (mmb _ M) = _
    conv => lhs; unfold L_X12_starts_7
    have e1 : i3 b + 1 = i3 (b + 1) := i3_add b 1
    have e2 : i3 b + 2 = i3 (b + 2) := i3_add b 2
    rw [if_pos (show (502 : Int32) ≤ i3 502 from Int32.le_refl _), gr17 h]
    simp only [Option.bind_some, e1, e2]
    rw [gd95 h (by omega), xi_i3 (by omega)]
    simp only [p_95]
    rw [gr17 h]
    simp only [Option.bind_some]
    rw [gd95 h (by omega), xi_i3 (by omega)]
    simp only [p_95]
    congr 2
    funext j k
    rw [up_at, up_at]
    unfold stX
    by_cases c0 : j = 0 ∧ k = 22
    · rw [if_pos c0, if_neg (by omega), if_neg (by omega), if_neg (by omega), up_at, if_pos c0]
    · rw [if_neg c0]
      by_cases c1 : j = 95 ∧ k = b + 1
      · rw [if_pos c1, if_neg (by omega), if_pos c1]
      · rw [if_neg c1]
        by_cases c2 : j = 95 ∧ k = b + 2
        · rw [if_pos c2, if_pos c2, if_neg c1]
        · rw [if_neg c2, if_neg c2, if_neg c1, up_at, if_neg c0]
theorem t_moves (h : Lay M) (hp : p + n ≤ 2642) (hq : q + n ≤ 2642) (hd : p + n ≤ q ∨ q + n ≤ p) (hf : n < fu) : F_X12_moves fu 0 (i3 p) (i3 q) (i3 n) (mmb X M) = some (mmb (mvX X p q n) M) := by
  unfold F_X12_moves
  simp only [p_0]
  have key := lpc (fun l i (Y : xT) => L_X12_moves_8 fu l 0 (i3 p) (i3 q) (i3 n) (i3 i) (mmb Y M)) (fun i => (fun j k => if j = 95 ∧ q ≤ k ∧ k < q + i then X 95 (p + (k - q)) else up X 0 22 (-1) j k)) n (some (mmb (mvX X p q n) M)) ?_ ?_ fu 0 (by omega) (by omega)
  · have g0 : (fun j k => if j = 95 ∧ q ≤ k ∧ k < q + 0 then X 95 (p + (k - q)) else up X 0 22 (-1) j k : xT) = up X 0 22 (-1) := by funext j k; rw [if_neg (by omega)]
    simp only [g0] at key; exact key
  · intro l i hi
    show L_X12_moves_8 fu (l + 1) 0 (i3 p) (i3 q) (i3 n) (i3 i) (mmb _ M) = L_X12_moves_8 fu l 0 (i3 p) (i3 q) (i3 n) (i3 (i + 1)) (mmb _ M)
    conv => lhs; unfold L_X12_moves_8
    rw [if_neg (fun q => by have := (i3_le (by omega) (by omega)).mp q; omega), gr17 h]
    simp only [Option.bind_some, i3_add]
    rw [gd95 h (by omega)]
    rw [gd95 h (by omega), xi_i3 (by omega), xi_i3 (by omega)]
    simp only [p_95, i3_add1, gi95]
    congr 2
    funext j k
    rw [up_at, if_neg (show ¬ (True ∧ q ≤ p + i ∧ p + i < q + i) from fun w => by omega), up_ne (j := 0) (by omega)]
    by_cases c : j = 95 ∧ k = q + i
    · rw [if_pos c, if_pos (by omega), c.2, show p + (q + i - q) = p + i by omega]
    · rw [if_neg c]
      by_cases c2 : j = 95 ∧ q ≤ k ∧ k < q + i
      · rw [if_pos c2, if_pos (by omega)]
      · rw [if_neg c2, if_neg (by omega)]
  · intro l
    show L_X12_moves_8 fu (l + 1) 0 (i3 p) (i3 q) (i3 n) (i3 n) (mmb _ M) = _
    conv => lhs; unfold L_X12_moves_8
    rw [if_pos (Int32.le_refl _)]
    congr 2
    funext j k
    unfold mvX
    by_cases c2 : j = 95 ∧ q ≤ k ∧ k < q + n
    · rw [if_pos c2, if_neg (by omega), if_pos c2]
    · rw [if_neg c2, if_neg c2, up_at]
theorem t_saysOf (h : Lay M) (hM : MCfg C X) (hb : b ≤ 2140) (hB : CB C) (hR : Rel C b D X) (hMp : InM C D) (hf : 100 < fu) (hf5 : f < 5) (hp : p < 4) : F_X12_saysOf fu 0 (i3 b) (i3 f) (i3 p) (mmb X M) = some (saysT C D (f * 4 + p), mmb X M) := by
  have h36 := tot36 hB
  unfold F_X12_saysOf saysT
  rw [t_mapOf h hb hR hf5 hp]
  simp only [Option.bind_some, map_le hMp (show f * 4 + p < 20 by omega)]
  by_cases c : D 9 (f * 4 + p) = 0
  · rw [if_pos c, if_pos c]
    unfold J_X12_saysOf_26
    rw [if_neg (by decide)]
  · rw [if_neg c, if_neg c, t_slotOf h hM hb hB hR (by decide) hf]
    simp only [Option.bind_some]
    unfold J_X12_saysOf_26
    cases hl : lst (fun s => decide (D 2 s = 1) && decide (D 3 s = D 9 (f * 4 + p))) (tot C) with
    | none => rw [if_neg (show ¬ 0 ≤ on none from by decide)]
    | some s =>
      obtain ⟨h1, h2, -⟩ := lst_some.mp hl
      simp only [Bool.and_eq_true, decide_eq_true_eq] at h2
      have r4 := ((hR.2.2.2.2.2.2.2.2.2 s h1).2.1 (by rw [h2.1]; decide)).2.2.2
      rw [if_pos (show 0 ≤ on (some s) from (i3_le (a := 0) (by omega) (by omega)).mpr (Nat.zero_le _)), show on (some s) = i3 s from rfl, t_slotAt]
      simp only [Option.bind_some]
      simp (disch := first | assumption | omega) only [l12_0_1, l12_0_4, l12_0_5, l12_0_6, l12_0_9, l12_0_10, l12_0_11, l12_0_13, l12_0_14, l12_0_15, l12_0_16, l12_0_17, l12_0_18, l12_0_19, l12_0_23, l12_0_24, l12_0_25, l12_0_27, n20_83, n20_84, n20_85, n20_86, n20_87, n20_88, n20_89, n20_90, n20_91, n20_92, n20_93, n20_94, n20_95, n20_96, n20_97, n20_98, n21_2, n21_3, n21_4, n21_5, n21_6, n22_20, m_0, m_1, m_87, m_88, m_89, m_90, m_91, m_92, m_93, m_94, m_95, m_96, m_97, m_98, p_0, p_1, p_87, p_88, p_89, p_90, p_91, p_92, p_93, p_94, p_95, p_96, p_97, p_98, gR_mmb, gN_mmb, gL_mmb, i3_add1, i3_add, i3_mul, i3_addl, i3_mull, i3_ladd, i3_lmul, i3_div4, i3_le, i3_lt, i3_eq, i3_lel, i3_lle, i3_ltl, i3_llt, i3_eql, i3_leq, i3_nl, i3_0l, i3_nn, n1_lt, n1_le, xi_i3, xin_i3, xi_lit, xin_lit, xb0, xb1, gd_t, nz4, Option.bind_some, gR_emb, gN_emb, gL_emb, ↓reduceIte, if_true, if_false, not_true_eq_false, not_false_eq_true, eq_self, Nat.not_lt_zero, Nat.zero_le, true_or, or_true, false_or, or_false, true_and, and_true, false_and, and_false, r4]
/-- behind a mount a page says what the finder says -/
theorem says_mount (hB : CB C) (hI : Inv C L D) (ha : a < 20) : saysT C (mountT D (C 0 0) (C 0 1)) a = findT D (tot C) 17 a := by
  obtain ⟨m, m1, m2, m3, m4, m5⟩ := find_is hB hI ha
  have hN := hI.2.2.1
  have e9 : mountT D (C 0 0) (C 0 1) 9 a = i3 m := (mount_9 ha).trans m1
  have e2 : ∀ t, mountT D (C 0 0) (C 0 1) 2 t = D 2 t := fun t => mount_n (by omega)
  have e3 : ∀ t, mountT D (C 0 0) (C 0 1) 3 t = D 3 t := fun t => mount_n (by omega)
  have e6 : ∀ t, mountT D (C 0 0) (C 0 1) 6 t = D 6 t := fun t => mount_n (by omega)
  unfold saysT
  rw [e9]
  simp only [e2, e3, e6]
  by_cases c : m = 0
  · rw [if_pos (by rw [c]; rfl), m4 c]
  · have q1 : ¬ i3 m = 0 := fun q => c ((i3_eq (b := 0) m2 (by omega)).mp q)
    rw [if_neg q1]
    obtain ⟨s, s1, s2, s3, s4⟩ := MapIs_da m3 c
    cases hl : lst (fun s => decide (D 2 s = 1) && decide (D 3 s = i3 m)) (tot C) with
    | none => exact absurd s4 (dat_none hN (Or.inl rfl) hl s s1 s2)
    | some o =>
      obtain ⟨o1, o2, o3⟩ := dat_some hN (Or.inl rfl) m2 hl
      exact (m5 o o1 o2 o3).symm
end
