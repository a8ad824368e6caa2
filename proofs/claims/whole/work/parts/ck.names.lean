/-! ===== lines, read: which FILE ===== -/
def ixO (nm : Nat → List Nat) (F : Nat) (l : List Nat) : Option Nat := lst (fun k => decide (nm k = l)) F
def ixN (o : Option Nat) : Int32 := match o with
  | some k => i3 k
  | none => -1
section
variable {M M' N : xM} {X Y Y' : xT} {f : Nat → Nat} {fu l t T n i j k d s x a b w F : Nat} {c ls : List Nat} {q : Nat × Nat} {u v : Int32} {nm : Nat → List Nat} {y : Int64}
theorem enc_eq32 (h1 : c.length ≤ 8) (h2 : ∀ x, x ∈ c → 1 ≤ x ∧ x ≤ 26) (g1 : ls.length ≤ 8) (g2 : ∀ x, x ∈ ls → 1 ≤ x ∧ x ≤ 26) : (Int64.ofNat (enc 32 c) = Int64.ofNat (enc 32 ls)) ↔ c = ls := by
  have hb1 := enc_lt (b := 32) (by omega) 8 c h1 h2
  have hb2 := enc_lt (b := 32) (by omega) 8 ls g1 g2
  have hp1 : (32 : Nat) ^ c.length ≤ 32 ^ 8 := Nat.pow_le_pow_right (by omega) h1
  have hp2 : (32 : Nat) ^ ls.length ≤ 32 ^ 8 := Nat.pow_le_pow_right (by omega) g1
  have h328 : (32 : Nat) ^ 8 < 2 ^ 63 := by decide
  exact ⟨fun q => enc_inj (b := 32) (by omega) 8 _ _ h1 h2 g2 (inj64 (by omega) (by omega) q), fun q => by rw [q]⟩
theorem enc_eq37 (h1 : c.length ≤ 8) (h2 : ∀ x, x ∈ c → 1 ≤ x ∧ x ≤ 26) (g1 : ls.length ≤ 8) (g2 : ∀ x, x ∈ ls → 1 ≤ x ∧ x ≤ 26) : (Int64.ofNat (enc 37 c) = Int64.ofNat (enc 37 ls)) ↔ c = ls := by
  have hb1 := enc_lt (b := 37) (by omega) 8 c h1 h2
  have hb2 := enc_lt (b := 37) (by omega) 8 ls g1 g2
  have hp1 : (37 : Nat) ^ c.length ≤ 37 ^ 8 := Nat.pow_le_pow_right (by omega) h1
  have hp2 : (37 : Nat) ^ ls.length ≤ 37 ^ 8 := Nat.pow_le_pow_right (by omega) g1
  have h378 : (37 : Nat) ^ 8 < 2 ^ 63 := by decide
  exact ⟨fun q => enc_inj (b := 37) (by omega) 8 _ _ h1 h2 g2 (inj64 (by omega) (by omega) q), fun q => by rw [q]⟩
theorem e_named (h : Lay M) (ha : a < 2) (hF : F ≤ 5) (h3 : gI M 7 a 3 = i3 F) (hn : ∀ k, k < F → (nm k).length ≤ 8 ∧ (∀ x, x ∈ nm k → 1 ≤ x ∧ x ≤ 26) ∧ gL M 21 a k = Int64.ofNat (enc 32 (nm k))) (g1 : ls.length ≤ 8) (g2 : ∀ x, x ∈ ls → 1 ≤ x ∧ x ≤ 26) (hf : 1100 < fu) :
    F_X7_fileNamed fu a (Int64.ofNat (enc 32 ls)) M = some (ixN (ixO nm F ls), M) := by
  have hstep : ∀ l k, k < F → L_X7_fileNamed_2 fu (l + 1) a (Int64.ofNat (enc 32 ls)) (i3 k) M = if nm k = ls then some (i3 k, M) else L_X7_fileNamed_2 fu l a (Int64.ofNat (enc 32 ls)) (i3 (k + 1)) M := fun l k hk => by
    obtain ⟨n1, n2, n3⟩ := hn k hk
    conv => lhs; unfold L_X7_fileNamed_2
    rw [h3, if_neg (fun q => by have := (i3_le (by omega) (by omega)).mp q; omega), if_neg (show ¬ (5 : Int32) ≤ i3 k from fun q => by have := (i3_le (a := 5) (by omega) (by omega)).mp q; omega), l7_7 h ha]
    simp only [Option.bind_some]
    rw [n_nm h ha, xin_i3 (show k < 5 by omega) (by omega), gd_t, xi_i3 (by omega), n3, i3_add1]
    by_cases c1 : nm k = ls
    · rw [if_neg (fun z => z (cmp_0.mpr ((enc_eq32 n1 n2 g1 g2).mpr c1))), if_pos c1]
    · rw [if_pos (fun z => c1 ((enc_eq32 n1 n2 g1 g2).mp (cmp_0.mp z))), if_neg c1]
  unfold F_X7_fileNamed ixN ixO
  cases e : lst (fun k => decide (nm k = ls)) F with
  | none =>
    have hne := lst_none.mp e
    have key : ∀ m k l, k + m = F → m < l → L_X7_fileNamed_2 fu l a (Int64.ofNat (enc 32 ls)) (i3 k) M = some (-1, M) := by
      intro m
      induction m with
      | zero =>
        intro k l hk hl
        obtain ⟨l, rfl⟩ : ∃ k, l = k + 1 := ⟨l - 1, by omega⟩
        have : k = F := by omega
        subst this
        unfold L_X7_fileNamed_2
        rw [h3, if_pos (Int32.le_refl _)]
      | succ m ih =>
        intro k l hk hl
        obtain ⟨l, rfl⟩ : ∃ k, l = k + 1 := ⟨l - 1, by omega⟩
        rw [hstep l k (by omega), if_neg (by have := hne k (by omega); simpa using this)]
        exact ih (k + 1) l (by omega) (by omega)
    exact key F 0 fu (by omega) (by omega)
  | some k0 =>
    obtain ⟨h1, h2, h4⟩ := lst_some.mp e
    have key : ∀ m k l, k + m = k0 → m < l → L_X7_fileNamed_2 fu l a (Int64.ofNat (enc 32 ls)) (i3 k) M = some (i3 k0, M) := by
      intro m
      induction m with
      | zero =>
        intro k l hk hl
        obtain ⟨l, rfl⟩ : ∃ k, l = k + 1 := ⟨l - 1, by omega⟩
        have : k = k0 := by omega
        subst this
        rw [hstep l k (by omega), if_pos (of_decide_eq_true h2)]
      | succ m ih =>
        intro k l hk hl
        obtain ⟨l, rfl⟩ : ∃ k, l = k + 1 := ⟨l - 1, by omega⟩
        rw [hstep l k (by omega), if_neg (by have := h4 k (by omega); simpa using this)]
        exact ih (k + 1) l (by omega) (by omega)
    exact key k0 0 fu (by omega) (by omega)
theorem t_named (h : LnX f t T (0, i) Y N) (hb : b + F ≤ 10) (hF : F ≤ 5) (hn : ∀ k, k < F → (nm k).length ≤ 8 ∧ (∀ x, x ∈ nm k → 1 ≤ x ∧ x ≤ 26) ∧ gL N 21 4 (b + k) = Int64.ofNat (enc 37 (nm k))) (hd : ∀ k j, k < F → j < F → nm k = nm j → k = j) (c1 : tkT f t (tS f t i) = 1) (hf : 1100 < fu) :
    F_X12_nameAt fu 0 (i3 b) (i3 F) (mmb Y N) = some (ixN (ixO nm F (tkL f t (tS f t i))), mmb Y N) := by
  have hL := h.1.1
  have h7 : Y 0 7 = i3 i := h.1.2.2.2.2.2.2.2.2.2.1
  have hi : i ≤ T := h.1.2.2.2.2.2.2.2.2.2.2.1
  have hTt := h.1.2.2.2.2.1
  have ht := h.1.2.2.2.2.2.1
  obtain ⟨q1, q2, q3, q4, q5, q6, q7, q8, q9⟩ := tk_w c1
  have hgl : gL N 21 2 i = Int64.ofNat (enc 37 (tkL f t (tS f t i))) := ((AtX_L h.1 (by show tkT f t (tS f t i) ≠ 0; rw [c1]; decide)).2).trans q6
  generalize tkL f t (tS f t i) = ls at hgl q8 q9
  have g0 : ixN (ixO nm 0 ls) = -1 := rfl
  unfold F_X12_nameAt
  rw [← g0]
  refine lpc (fun l k x => L_X12_nameAt_5 fu l 0 (i3 b) (i3 F) x (i3 k) (mmb Y N)) (fun k => ixN (ixO nm k ls)) F _ ?_ ?_ fu 0 (by omega) (by omega)
  · intro l k hk
    obtain ⟨n1, n2, n3⟩ := hn k hk
    show L_X12_nameAt_5 fu (l + 1) 0 (i3 b) (i3 F) (ixN (ixO nm k ls)) (i3 k) (mmb Y N) = L_X12_nameAt_5 fu l 0 (i3 b) (i3 F) (ixN (ixO nm (k + 1) ls)) (i3 (k + 1)) (mmb Y N)
    conv => lhs; unfold L_X12_nameAt_5
    rw [if_neg (fun q => by have := (i3_le (by omega) (by omega)).mp q; omega), gR_mmb, l12_0_13 hL]
    simp only [Option.bind_some, gN_mmb]
    rw [n21_4 hL, i3_add, xin_i3 (show b + k < 10 by omega) (by omega), gd_t, gR_mmb, l12_0_6 hL]
    simp only [Option.bind_some, gN_mmb]
    rw [n21_2 hL, m_0, h7, xin_i3 (show i < 1002 by omega) (by omega), gd_t, xi_i3 (by omega), xi_i3 (by omega), gL_mmb, gL_mmb, n3, hgl, i3_add1]
    have es : ixO nm (k + 1) ls = match ixO nm k ls with | some j => some j | none => if decide (nm k = ls) then some k else none := rfl
    by_cases cc : nm k = ls
    · rw [if_neg (fun z => z (cmp_0.mpr ((enc_eq37 n1 n2 q8 q9).mpr cc)))]
      have hno : ixO nm k ls = none := lst_none.mpr (fun j hj => decide_eq_false (fun z => by have := hd j k (by omega) hk (z.trans cc.symm); omega))
      rw [es, hno, decide_eq_true cc]
      rfl
    · rw [if_pos (fun z => cc ((enc_eq37 n1 n2 q8 q9).mp (cmp_0.mp z)))]
      rw [es, decide_eq_false cc]
      cases ixO nm k ls <;> rfl
  · intro l
    show L_X12_nameAt_5 fu (l + 1) 0 (i3 b) (i3 F) (ixN (ixO nm F ls)) (i3 F) (mmb Y N) = _
    conv => lhs; unfold L_X12_nameAt_5
    rw [if_pos (Int32.le_refl _)]
end
