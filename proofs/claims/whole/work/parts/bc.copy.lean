/-! ===== a disk copied: the class ===== -/
/-- disk S laid over T -/
def cpD (S T : xT) : xT := fun j k =>
  if j < 2 ∧ k < 6 ∨ 2 ≤ j ∧ j < 7 ∧ k < 36 ∨ 7 ≤ j ∧ j < 9 ∧ k < 144 ∨ j = 9 ∧ k < 20 ∨ 11 ≤ j ∧ j < 13 ∧ k < 5 ∨ j = 14 ∧ (k = 1 ∨ k = 2 ∨ k = 3 ∨ k = 10) ∨ j = 15 ∧ k < 7 then S j k else if j = 14 ∧ k = 11 then 0 else T j k
/-- a row laid over -/
def cpR (T : xT) (j n : Nat) (g : Nat → Int32) : xT := fun i k => if i = j ∧ k < n then g k else T i k
section
variable {M M' : xM} {D E T S X X' : xT} {C : xC} {R : Nat → Int32} {d e fu n m i j o p q a k l s t w K P L L' b B B' f : Nat} {v x y r z : Int32} {g : Nat → Int32}
theorem cpI_from {c s' j' : Nat} (h : own d c s = none) (h' : own d c s' = some j') : cpI (emb d T M) c s s' 0 0 n = emb d (cpR T j' n (gI M c s)) M := by
  refine Prod.ext ?_ rfl
  funext c1 s1 k1
  show (if c1 = c ∧ s1 = s' ∧ 0 ≤ k1 ∧ k1 < 0 + n then emf (own d c s) T (0 + (k1 - 0)) (M.1 c s (0 + (k1 - 0))) else emf (own d c1 s1) T k1 (M.1 c1 s1 k1)) = emf (own d c1 s1) (cpR T j' n (gI M c s)) k1 (M.1 c1 s1 k1)
  rw [h]
  cases e : own d c1 s1 with
  | none =>
    rw [if_neg (fun q => by rw [q.1, q.2.1, h'] at e; cases e)]; rfl
  | some i =>
    show (if c1 = c ∧ s1 = s' ∧ 0 ≤ k1 ∧ k1 < 0 + n then M.1 c s (0 + (k1 - 0)) else T i k1) = if i = j' ∧ k1 < n then M.1 c s k1 else T i k1
    have a := own_at h'
    have b := own_at e
    by_cases q : i = j' ∧ k1 < n
    · rw [if_pos q, if_pos ⟨by rw [b.1, q.1, ← a.1], by rw [b.2, q.1, ← a.2], Nat.zero_le _, by omega⟩, show 0 + (k1 - 0) = k1 by omega]
    · rw [if_neg q]
      by_cases q2 : c1 = c ∧ s1 = s' ∧ 0 ≤ k1 ∧ k1 < 0 + n
      · exfalso
        rw [q2.1, q2.2.1, h'] at e
        injection e with e
        exact q ⟨e.symm, by omega⟩
      · rw [if_neg q2]
theorem tb_r (h : j < 29) : tb e M j k = gI M (atC j) (atS e j) k := by
  show (if j < 29 then M.1 (atC j) (atS e j) k else 0) = _
  rw [if_pos h]; rfl
theorem own_2 (hne : d ≠ e) : own d 2 e = none := by unfold own; simp; omega
theorem own_0 (hne : d ≠ e) : own d 0 e = none := by unfold own; simp; omega
theorem own_20d : ∀ d : Fin 5, ∀ e : Fin 5, d ≠ e → ∀ j : Fin 11, own d 20 (cb e + j) = none := by decide +kernel
theorem own_22d : ∀ d : Fin 5, ∀ e : Fin 5, d ≠ e → ∀ j : Fin 3, own d 22 (ob e + j) = none := by decide +kernel
theorem own_20e (hd : d < 5) (he : e < 5) (hne : d ≠ e) (hj : j < 11) : own d 20 (cb e + j) = none := own_20d ⟨d, hd⟩ ⟨e, he⟩ (fun q => hne (by injection q)) ⟨j, hj⟩
theorem own_22e (hd : d < 5) (he : e < 5) (hne : d ≠ e) (hj : j < 3) : own d 22 (ob e + j) = none := own_22d ⟨d, hd⟩ ⟨e, he⟩ (fun q => hne (by injection q)) ⟨j, hj⟩
theorem ccok (h : n ≤ 5760) : xcpok 0 0 (i3 n) n n = true := xcpok_i3 (sp := 0) (dp := 0) (by omega) (by omega) (by omega) (by omega)
/-- the chip of e laid over that of d -/
def cpC (S T : xT) : xT := fun j k =>
  if j < 2 ∧ k < 6 ∨ 2 ≤ j ∧ j < 7 ∧ k < 36 ∨ 7 ≤ j ∧ j < 9 ∧ k < 144 ∨ j = 15 ∧ k < 7 then S j k else T j k
theorem cpC_is : cpR (cpR (cpR (cpR (cpR (cpR (cpR (cpR (cpR (up (up (up (up (up (up (up T 15 0 (S 15 0)) 15 1 (S 15 1)) 15 2 (S 15 2)) 15 3 (S 15 3)) 15 4 (S 15 4)) 15 5 (S 15 5)) 15 6 (S 15 6)) 0 6 (S 0)) 1 6 (S 1)) 2 36 (S 2)) 3 36 (S 3)) 4 36 (S 4)) 5 36 (S 5)) 6 36 (S 6)) 7 144 (S 7)) 8 144 (S 8) = cpC S T := by
  funext j k
  unfold cpR cpC
  simp only [up_at]
  by_cases h0 : j = 0
  · subst h0; simp
  by_cases h1 : j = 1
  · subst h1; simp
  by_cases h2 : j = 2
  · subst h2; simp
  by_cases h3 : j = 3
  · subst h3; simp
  by_cases h4 : j = 4
  · subst h4; simp
  by_cases h5 : j = 5
  · subst h5; simp
  by_cases h6 : j = 6
  · subst h6; simp
  by_cases h7 : j = 7
  · subst h7; simp
  by_cases h8 : j = 8
  · subst h8; simp
  by_cases h15 : j = 15
  · subst h15
    by_cases k0 : k = 0
    · subst k0; simp
    by_cases k1 : k = 1
    · subst k1; simp
    by_cases k2 : k = 2
    · subst k2; simp
    by_cases k3 : k = 3
    · subst k3; simp
    by_cases k4 : k = 4
    · subst k4; simp
    by_cases k5 : k = 5
    · subst k5; simp
    by_cases k6 : k = 6
    · subst k6; simp
    have : ¬ k < 7 := by omega
    simp [k0, k1, k2, k3, k4, k5, k6, this]
  have q1 : ¬ (j < 2 ∧ k < 6 ∨ 2 ≤ j ∧ j < 7 ∧ k < 36 ∨ 7 ≤ j ∧ j < 9 ∧ k < 144 ∨ j = 15 ∧ k < 7) := by omega
  rw [if_neg q1]
  simp [h0, h1, h2, h3, h4, h5, h6, h7, h8, h15]
theorem e_copyC (h : Lay M) (hd : d < 5) (he : e < 5) (hne : d ≠ e) (hS : S = tb e M) : F_X0_copyFrom fu d (some e) (emb d T M) = some (emb d (cpC S T) M) := by
  have r0 : ∀ (T : xT) (k : Nat), gI (emb d T M) 0 e k = S 15 k := fun T k => by rw [gI_not (own_0 hne), hS, tb_r (by omega)]; rfl
  have r20 : ∀ j, j < 11 → gI M 20 (cb e + j) = S j := fun j hj => by funext k; rw [hS, tb_r (by omega)]; unfold atC atS; rw [if_pos hj, if_pos hj]
  have c20 : ∀ (T : xT) (j n : Nat), j < 11 → cpI (emb d T M) 20 (cb e + j) (cb d + j) 0 0 n = emb d (cpR T j n (S j)) M := fun T j n hj => by rw [cpI_from (own_20e hd he hne hj) (ow_a hj), r20 j hj]
  have w6 : xcpok 0 0 6 6 6 = true := ccok (n := 6) (by omega)
  have w36 : xcpok 0 0 36 36 36 = true := ccok (n := 36) (by omega)
  have w144 : xcpok 0 0 144 144 144 = true := ccok (n := 144) (by omega)
  have xi0 : xi (0 : Int32) = 0 := by decide
  have xi6 : xi (6 : Int32) = 6 := by decide
  have xi36 : xi (36 : Int32) = 36 := by decide
  have xi144 : xi (144 : Int32) = 144 := by decide
  unfold F_X0_copyFrom
  simp only [Option.bind_some, r0, w_c, gR_emb, gN_emb, l0_7 h he, l0_7 h hd, l0_8 h he, l0_8 h hd, l0_9 h he, l0_9 h hd, l0_10 h he, l0_10 h hd, l0_11 h he, l0_11 h hd, l0_12 h he, l0_12 h hd, l0_13 h he, l0_13 h hd, l0_14 h he, l0_14 h hd, l0_15 h he, l0_15 h hd]
  simp only [n_a0 h he, n_a0 h hd, n_a1 h he, n_a1 h hd, n_a2 h he, n_a2 h hd, n_a3 h he, n_a3 h hd, n_a4 h he, n_a4 h hd, n_a5 h he, n_a5 h hd, n_a6 h he, n_a6 h hd, n_a7 h he, n_a7 h hd, n_a8 h he, n_a8 h hd, w6, w36, w144, gd_t, xi0, xi6, xi36, xi144, gR_emb, gN_emb, Option.bind_some]
  rw [c20 _ 0 6 (by omega)]
  simp only [gR_emb, gN_emb, l0_8 h he, l0_8 h hd, Option.bind_some, n_a1 h he, n_a1 h hd, w6, gd_t]
  rw [c20 _ 1 6 (by omega)]
  simp only [gR_emb, gN_emb, l0_9 h he, l0_9 h hd, Option.bind_some, n_a2 h he, n_a2 h hd, w36, gd_t]
  rw [c20 _ 2 36 (by omega)]
  simp only [gR_emb, gN_emb, l0_10 h he, l0_10 h hd, Option.bind_some, n_a3 h he, n_a3 h hd, w36, gd_t]
  rw [c20 _ 3 36 (by omega)]
  simp only [gR_emb, gN_emb, l0_11 h he, l0_11 h hd, Option.bind_some, n_a4 h he, n_a4 h hd, w36, gd_t]
  rw [c20 _ 4 36 (by omega)]
  simp only [gR_emb, gN_emb, l0_12 h he, l0_12 h hd, Option.bind_some, n_a5 h he, n_a5 h hd, w36, gd_t]
  rw [c20 _ 5 36 (by omega)]
  simp only [gR_emb, gN_emb, l0_13 h he, l0_13 h hd, Option.bind_some, n_a6 h he, n_a6 h hd, w36, gd_t]
  rw [c20 _ 6 36 (by omega)]
  simp only [gR_emb, gN_emb, l0_14 h he, l0_14 h hd, Option.bind_some, n_a7 h he, n_a7 h hd, w144, gd_t]
  rw [c20 _ 7 144 (by omega)]
  simp only [gR_emb, gN_emb, l0_15 h he, l0_15 h hd, Option.bind_some, n_a8 h he, n_a8 h hd, w144, gd_t]
  rw [c20 _ 8 144 (by omega), cpC_is]
theorem cpD_is : up (cpR (cpR (cpR (cpC S (up (up (up (up T 14 1 (S 14 1)) 14 2 (S 14 2)) 14 3 (S 14 3)) 14 10 (S 14 10))) 9 20 (S 9)) 11 5 (S 11)) 12 5 (S 12)) 14 11 0 = cpD S T := by
  funext j k
  unfold cpR cpC cpD
  simp only [up_at]
  by_cases h9 : j = 9
  · subst h9; simp
  by_cases h11 : j = 11
  · subst h11; simp
  by_cases h12 : j = 12
  · subst h12; simp
  by_cases h14 : j = 14
  · subst h14
    by_cases k1 : k = 1
    · subst k1; simp
    by_cases k2 : k = 2
    · subst k2; simp
    by_cases k3 : k = 3
    · subst k3; simp
    by_cases k10 : k = 10
    · subst k10; simp
    by_cases k11 : k = 11
    · subst k11; simp
    simp [k1, k2, k3, k10, k11]
  have q : (j < 2 ∧ k < 6 ∨ 2 ≤ j ∧ j < 7 ∧ k < 36 ∨ 7 ≤ j ∧ j < 9 ∧ k < 144 ∨ j = 9 ∧ k < 20 ∨ 11 ≤ j ∧ j < 13 ∧ k < 5 ∨ j = 14 ∧ (k = 1 ∨ k = 2 ∨ k = 3 ∨ k = 10) ∨ j = 15 ∧ k < 7) ↔ (j < 2 ∧ k < 6 ∨ 2 ≤ j ∧ j < 7 ∧ k < 36 ∨ 7 ≤ j ∧ j < 9 ∧ k < 144 ∨ j = 15 ∧ k < 7) := by omega
  by_cases c : (j < 2 ∧ k < 6 ∨ 2 ≤ j ∧ j < 7 ∧ k < 36 ∨ 7 ≤ j ∧ j < 9 ∧ k < 144 ∨ j = 15 ∧ k < 7)
  · rw [if_pos (q.mpr c), if_pos c]
    simp [h9, h11, h12, h14]
  · rw [if_neg (fun w => c (q.mp w)), if_neg c]
    simp [h9, h11, h12, h14]
theorem e_copy (h : Lay M) (hd : d < 5) (he : e < 5) (hne : d ≠ e) (hS : S = tb e M) (hx : S 14 1 = 0 ∨ S 14 1 = 1) : F_X2_copyFrom fu d (some e) (emb d T M) = some (emb d (cpD S T) (sR M 2 d 4 (gR M 2 e 4))) := by
  have h2 : Lay (sR M 2 d 4 (gR M 2 e 4)) := Lay_sR4 h
  have hS2 : S = tb e (sR M 2 d 4 (gR M 2 e 4)) := hS
  have r2 : ∀ (T : xT) (k : Nat), gI (emb d T (sR M 2 d 4 (gR M 2 e 4))) 2 e k = S 14 k := fun T k => by rw [gI_not (own_2 hne), hS, tb_r (by omega)]; rfl
  have r20 : gI (sR M 2 d 4 (gR M 2 e 4)) 20 (cb e + 9) = S 9 := by funext k; rw [hS, tb_r (by omega)]; rfl
  have r22 : ∀ j, j < 2 → gI (sR M 2 d 4 (gR M 2 e 4)) 22 (ob e + j) = S (j + 11) := fun j hj => by
    funext k; rw [hS, tb_r (by omega)]
    rcases (show j = 0 ∨ j = 1 by omega) with rfl | rfl <;> rfl
  have c20 : ∀ T : xT, cpI (emb d T (sR M 2 d 4 (gR M 2 e 4))) 20 (cb e + 9) (cb d + 9) 0 0 20 = emb d (cpR T 9 20 (S 9)) (sR M 2 d 4 (gR M 2 e 4)) := fun T => by rw [cpI_from (own_20e hd he hne (by omega)) (ow_a (by omega)), r20]
  have c22 : ∀ (T : xT) (j : Nat), j < 2 → cpI (emb d T (sR M 2 d 4 (gR M 2 e 4))) 22 (ob e + j) (ob d + j) 0 0 5 = emb d (cpR T (j + 11) 5 (S (j + 11))) (sR M 2 d 4 (gR M 2 e 4)) := fun T j hj => by rw [cpI_from (own_22e hd he hne (by omega)) (ow_b (by omega)), r22 j hj]
  have w20 : xcpok 0 0 20 20 20 = true := ccok (n := 20) (by omega)
  have w5 : xcpok 0 0 5 5 5 = true := ccok (n := 5) (by omega)
  have xi0 : xi (0 : Int32) = 0 := by decide
  have xi20 : xi (20 : Int32) = 20 := by decide
  have xi5 : xi (5 : Int32) = 5 := by decide
  have hxb : xbool (S 14 1) = true := by rcases hx with q | q <;> rw [q] <;> rfl
  unfold F_X2_copyFrom
  simp only [Option.bind_some, gR_emb, emb_sR, r2, hxb, gd_t, w_d, l2_0 h2 he, l2_0 h2 hd]
  rw [e_copyC h2 hd he hne hS2]
  simp only [Option.bind_some, gR_emb, gN_emb, l2_7 h2 he, l2_7 h2 hd, n_a9 h2 he, n_a9 h2 hd, w20, gd_t, xi0, xi20, xi5]
  rw [c20]
  simp only [Option.bind_some, gR_emb, gN_emb, l2_8 h2 he, l2_8 h2 hd, n_b0 h2 he, n_b0 h2 hd, w5, gd_t]
  rw [c22 _ 0 (by omega)]
  simp only [Option.bind_some, gR_emb, gN_emb, l2_9 h2 he, l2_9 h2 hd, n_b1 h2 he, n_b1 h2 hd, w5, gd_t]
  rw [c22 _ 1 (by omega)]
  simp only [xb_f, gd_t, w_d]
  rw [cpD_is]
end
