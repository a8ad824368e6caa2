/-! ===== files are opened and closed: the reference ===== -/
section
variable {M : xM} {D E X Y Z T X' E' E'' X'' : xT} {C : xC} {R N : Nat → Int32} {fu b d L s o t k n m i j p q f l w nb nw a : Nat} {x y z v u : Int32} {nt : Bool}
theorem xor_dec : ∀ o : Fin 32, ∀ f : Fin 5, (i3 o ^^^ (1 <<< (i3 f &&& 31))) = i3 ((o : Nat) ^^^ 2 ^ (f : Nat)) ∧ ((o : Nat) ^^^ 2 ^ (f : Nat)) < 32 ∧ ∀ k : Fin 5, ((o : Nat) ^^^ 2 ^ (f : Nat)) / 2 ^ (k : Nat) % 2 = if k = f then 1 - (o : Nat) / 2 ^ (f : Nat) % 2 else (o : Nat) / 2 ^ (k : Nat) % 2 := by decide +kernel
theorem clr_dec : ∀ o : Fin 32, ∀ f : Fin 5, (i3 o &&& ((1 <<< (i3 f &&& 31)) ^^^ (-1))) = i3 ((o : Nat) &&& (31 ^^^ 2 ^ (f : Nat))) ∧ ((o : Nat) &&& (31 ^^^ 2 ^ (f : Nat))) < 32 ∧ ∀ k : Fin 5, ((o : Nat) &&& (31 ^^^ 2 ^ (f : Nat))) / 2 ^ (k : Nat) % 2 = if k = f then 0 else (o : Nat) / 2 ^ (k : Nat) % 2 := by decide +kernel
theorem or_dec : ∀ o : Fin 32, ∀ f : Fin 5, (i3 o ||| (1 <<< (i3 f &&& 31))) = i3 ((o : Nat) ||| 2 ^ (f : Nat)) ∧ ((o : Nat) ||| 2 ^ (f : Nat)) < 32 ∧ ∀ k : Fin 5, ((o : Nat) ||| 2 ^ (f : Nat)) / 2 ^ (k : Nat) % 2 = if k = f then 1 else (o : Nat) / 2 ^ (k : Nat) % 2 := by decide +kernel
theorem bits_xor {g g' : Nat → Int32} (h : bitsAs x g) (hf : f < 5) (hn : ∀ k, k < 5 → k ≠ f → g' k = g k) (hv : (g f = 0 ∧ g' f = 1) ∨ (g f = 1 ∧ g' f = 0)) : bitsAs (x ^^^ (1 <<< (i3 f &&& 31))) g' := by
  obtain ⟨o', ho, rfl, e⟩ := h
  obtain ⟨q1, q2, q3⟩ := xor_dec ⟨o', ho⟩ ⟨f, hf⟩
  refine ⟨_, q2, q1, fun k hk => ?_⟩
  have q := q3 ⟨k, hk⟩
  simp only [Fin.mk.injEq] at q
  rw [q]
  by_cases c : k = f
  · rw [if_pos c, c]
    have e1 := e f hf
    rcases hv with ⟨h1, h2⟩ | ⟨h1, h2⟩
    · rw [h1] at e1
      have := (i3_eq (a := 0) (by omega) (by omega)).mp e1
      rw [h2, ← this]; rfl
    · rw [h1] at e1
      have := (i3_eq (a := 1) (by omega) (by omega)).mp e1
      rw [h2, ← this]; rfl
  · rw [if_neg c, hn k hk c, e k hk]
theorem bits_clr {g g' : Nat → Int32} (h : bitsAs x g) (hf : f < 5) (hn : ∀ k, k < 5 → k ≠ f → g' k = g k) (hv : g' f = 0) : bitsAs (x &&& ((1 <<< (i3 f &&& 31)) ^^^ (-1))) g' := by
  obtain ⟨o', ho, rfl, e⟩ := h
  obtain ⟨q1, q2, q3⟩ := clr_dec ⟨o', ho⟩ ⟨f, hf⟩
  refine ⟨_, q2, q1, fun k hk => ?_⟩
  have q := q3 ⟨k, hk⟩
  simp only [Fin.mk.injEq] at q
  rw [q]
  by_cases c : k = f
  · rw [if_pos c, c, hv]; rfl
  · rw [if_neg c, hn k hk c, e k hk]
theorem bits_or {g g' : Nat → Int32} (h : bitsAs x g) (hf : f < 5) (hn : ∀ k, k < 5 → k ≠ f → g' k = g k) (hv : g' f = 1) : bitsAs (x ||| (1 <<< (i3 f &&& 31))) g' := by
  obtain ⟨o', ho, rfl, e⟩ := h
  obtain ⟨q1, q2, q3⟩ := or_dec ⟨o', ho⟩ ⟨f, hf⟩
  refine ⟨_, q2, q1, fun k hk => ?_⟩
  have q := q3 ⟨k, hk⟩
  simp only [Fin.mk.injEq] at q
  rw [q]
  by_cases c : k = f
  · rw [if_pos c, c, hv]; rfl
  · rw [if_neg c, hn k hk c, e k hk]
def unmX (X : xT) (b f : Nat) : xT := fun j k => if j = 95 ∧ b + 14 + 4 * f ≤ k ∧ k < b + 14 + 4 * f + 4 then 0 else X j k
theorem unmX_o (h : j ≠ 95 ∨ k < b + 14 + 4 * f ∨ b + 14 + 4 * f + 4 ≤ k) : unmX X b f j k = X j k := by unfold unmX; rw [if_neg (by omega)]
theorem t_unmaps (h : Lay M) (hb : b ≤ 2140) (hf5 : f < 5) (hf : 100 < fu) : F_X12_unmaps fu 0 (i3 b) (i3 f) (mmb X M) = some (mmb (unmX X b f) M) := by
  unfold F_X12_unmaps unmX
  have key := lpc (fun n i (Y : xT) => L_X12_unmaps_2 fu n 0 (i3 b) (i3 f) (i3 i) (mmb Y M)) (fun i => (fun j k => if j = 95 ∧ b + 14 + 4 * f ≤ k ∧ k < b + 14 + 4 * f + i then 0 else X j k)) 4 (some (mmb (fun j k => if j = 95 ∧ b + 14 + 4 * f ≤ k ∧ k < b + 14 + 4 * f + 4 then 0 else X j k) M)) ?_ ?_ fu 0 (by omega) (by omega)
  · have g0 : (fun j k => if j = 95 ∧ b + 14 + 4 * f ≤ k ∧ k < b + 14 + 4 * f + 0 then 0 else X j k : xT) = X := by funext j k; rw [if_neg (by omega)]
    simp only [g0] at key; exact key
  · intro n i hi
    show L_X12_unmaps_2 fu (n + 1) 0 (i3 b) (i3 f) (i3 i) (mmb _ M) = L_X12_unmaps_2 fu n 0 (i3 b) (i3 f) (i3 (i + 1)) (mmb _ M)
    conv => lhs; unfold L_X12_unmaps_2
    simp (disch := first | assumption | omega) only [l12_0_1, l12_0_4, l12_0_5, l12_0_6, l12_0_9, l12_0_10, l12_0_11, l12_0_13, l12_0_14, l12_0_15, l12_0_16, l12_0_17, l12_0_18, l12_0_19, l12_0_23, l12_0_24, l12_0_25, l12_0_27, n20_83, n20_84, n20_85, n20_86, n20_87, n20_88, n20_89, n20_90, n20_91, n20_92, n20_93, n20_94, n20_95, n20_96, n20_97, n20_98, n21_2, n21_3, n21_4, n21_5, n21_6, n22_20, m_0, m_1, m_87, m_88, m_89, m_90, m_91, m_92, m_93, m_94, m_95, m_96, m_97, m_98, p_0, p_1, p_87, p_88, p_89, p_90, p_91, p_92, p_93, p_94, p_95, p_96, p_97, p_98, gR_mmb, gN_mmb, gL_mmb, i3_add1, i3_add, i3_mul, i3_addl, i3_mull, i3_ladd, i3_lmul, i3_div4, i3_le, i3_lt, i3_eq, i3_lel, i3_lle, i3_ltl, i3_llt, i3_eql, i3_leq, i3_nl, i3_0l, i3_nn, n1_lt, n1_le, xi_i3, xin_i3, xi_lit, xin_lit, xb0, xb1, gd_t, nz4, Option.bind_some, gR_emb, gN_emb, gL_emb, ↓reduceIte, if_true, if_false, not_true_eq_false, not_false_eq_true, eq_self, Nat.not_lt_zero, Nat.zero_le, true_or, or_true, false_or, or_false, true_and, and_true, false_and, and_false]
    rw [if_neg (by omega)]
    congr 2
    funext j k
    rw [up_at]
    by_cases c : j = 95 ∧ k = b + 14 + 4 * f + i
    · rw [if_pos c, if_pos (by omega)]
    · rw [if_neg c]
      by_cases c2 : j = 95 ∧ b + 14 + 4 * f ≤ k ∧ k < b + 14 + 4 * f + i
      · rw [if_pos c2, if_pos (by omega)]
      · rw [if_neg c2, if_neg (by omega)]
  · intro n
    show L_X12_unmaps_2 fu (n + 1) 0 (i3 b) (i3 f) (i3 4) (mmb _ M) = _
    conv => lhs; unfold L_X12_unmaps_2
    simp (disch := first | assumption | omega) only [l12_0_1, l12_0_4, l12_0_5, l12_0_6, l12_0_9, l12_0_10, l12_0_11, l12_0_13, l12_0_14, l12_0_15, l12_0_16, l12_0_17, l12_0_18, l12_0_19, l12_0_23, l12_0_24, l12_0_25, l12_0_27, n20_83, n20_84, n20_85, n20_86, n20_87, n20_88, n20_89, n20_90, n20_91, n20_92, n20_93, n20_94, n20_95, n20_96, n20_97, n20_98, n21_2, n21_3, n21_4, n21_5, n21_6, n22_20, m_0, m_1, m_87, m_88, m_89, m_90, m_91, m_92, m_93, m_94, m_95, m_96, m_97, m_98, p_0, p_1, p_87, p_88, p_89, p_90, p_91, p_92, p_93, p_94, p_95, p_96, p_97, p_98, gR_mmb, gN_mmb, gL_mmb, i3_add1, i3_add, i3_mul, i3_addl, i3_mull, i3_ladd, i3_lmul, i3_div4, i3_le, i3_lt, i3_eq, i3_lel, i3_lle, i3_ltl, i3_llt, i3_eql, i3_leq, i3_nl, i3_0l, i3_nn, n1_lt, n1_le, xi_i3, xin_i3, xi_lit, xin_lit, xb0, xb1, gd_t, nz4, Option.bind_some, gR_emb, gN_emb, gL_emb, ↓reduceIte, if_true, if_false, not_true_eq_false, not_false_eq_true, eq_self, Nat.not_lt_zero, Nat.zero_le, true_or, or_true, false_or, or_false, true_and, and_true, false_and, and_false, Nat.le_refl]
theorem Rel_unmap (hR : Rel C b D X) (hf5 : f < 5) : Rel C b (unmapT D f) (unmX X b f) := by
  obtain ⟨g0, g1, g2, g3, g4, g5, g6, g7, g8, g9⟩ := hR
  have rd : ∀ q, (q < b + 14 + 4 * f ∨ b + 14 + 4 * f + 4 ≤ q) → unmX X b f 95 q = X 95 q := fun q h => unmX_o (Or.inr h)
  have f11 : unmapT D f 11 = D 11 := funext fun k => unmapT_lo (by omega)
  have f12 : unmapT D f 12 = D 12 := funext fun k => unmapT_lo (by omega)
  refine ⟨?_, ?_, ?_, ?_, ?_, ?_, ?_, fun k' hk' => ?_, fun k' hk' => ?_, fun t ht => ?_⟩
  · rw [unmapT_lo (by omega)]; exact (rd _ (by omega)).trans g0
  · rw [unmapT_lo (by omega)]; exact (rd _ (by omega)).trans g1
  · rw [unmapT_lo (by omega)]; exact (rd _ (by omega)).trans g2
  · rw [unmapT_lo (by omega)]; exact (rd _ (by omega)).trans g3
  · rw [f11, rd _ (by omega)]; exact g4
  · rw [f12, rd _ (by omega)]; exact g5
  · rw [unmapT_lo (by omega)]; exact (rd _ (by omega)).trans g6
  · rw [unmapT_lo (by omega)]; exact (rd _ (by omega)).trans (g7 k' hk')
  · by_cases c : f * 4 ≤ k' ∧ k' < f * 4 + 4
    · have e1 : unmapT D f 9 k' = 0 := by unfold unmapT; rw [if_pos ⟨rfl, c⟩]
      rw [e1]; unfold unmX; exact if_pos (by omega)
    · have e1 : unmapT D f 9 k' = D 9 k' := by unfold unmapT; rw [if_neg (by omega), if_neg (by omega)]
      rw [e1]; exact (rd _ (by omega)).trans (g8 k' hk')
  · rw [unmapT_lo (by omega), unmapT_lo (by omega), unmapT_lo (by omega), unmapT_lo (by omega), unmapT_lo (by omega)]
    refine ⟨(rd _ (by omega)).trans (g9 t ht).1, fun q => ?_, fun q n hn hl => ?_⟩
    · rw [rd _ (by omega), rd _ (by omega), rd _ (by omega), rd _ (by omega)]; exact (g9 t ht).2.1 q
    · rw [rd _ (by omega), rd _ (by omega), unmapT_lo (by omega), unmapT_lo (by omega)]; exact (g9 t ht).2.2 q n hn hl
theorem Rel_open (hR : Rel C b D X) (hg : bitsAs y (up D 11 f v 11)) : Rel C b (up D 11 f v) (up X 95 (b + 4) y) := by
  obtain ⟨g0, g1, g2, g3, g4, g5, g6, g7, g8, g9⟩ := hR
  have f12 : up D 11 f v 12 = D 12 := funext fun k => up_ne (by omega)
  refine ⟨?_, ?_, ?_, ?_, ?_, ?_, ?_, fun k' hk' => ?_, fun k' hk' => ?_, fun t ht => ?_⟩
  · rw [up_ne (by omega), up_ne (by omega)]; exact g0
  · rw [up_ne (by omega), up_ne (by omega)]; exact g1
  · rw [up_ne (by omega), up_ne (by omega)]; exact g2
  · rw [up_ne (by omega), up_ne (by omega)]; exact g3
  · rw [up_eq]; exact hg
  · rw [up_ne (by omega), f12]; exact g5
  · rw [up_ne (by omega), up_ne (by omega)]; exact g6
  · rw [up_ne (by omega), up_ne (by omega)]; exact g7 k' hk'
  · rw [up_ne (by omega), up_ne (by omega)]; exact g8 k' hk'
  · rw [up_ne (j' := 2) (by omega), up_ne (j' := 3) (by omega), up_ne (j' := 4) (by omega), up_ne (j' := 5) (by omega), up_ne (j' := 6) (by omega), up_ne (by omega), up_ne (by omega), up_ne (by omega), up_ne (by omega), up_ne (by omega)]
    refine ⟨(g9 t ht).1, (g9 t ht).2.1, fun q n hn hl => ?_⟩
    rw [up_ne (by omega), up_ne (by omega), up_ne (by omega), up_ne (by omega)]; exact (g9 t ht).2.2 q n hn hl
theorem Rel_orph (hR : Rel C b D X) (hg : bitsAs y (up D 12 f v 12)) : Rel C b (up D 12 f v) (up X 95 (b + 5) y) := by
  obtain ⟨g0, g1, g2, g3, g4, g5, g6, g7, g8, g9⟩ := hR
  have f11 : up D 12 f v 11 = D 11 := funext fun k => up_ne (by omega)
  refine ⟨?_, ?_, ?_, ?_, ?_, ?_, ?_, fun k' hk' => ?_, fun k' hk' => ?_, fun t ht => ?_⟩
  · rw [up_ne (by omega), up_ne (by omega)]; exact g0
  · rw [up_ne (by omega), up_ne (by omega)]; exact g1
  · rw [up_ne (by omega), up_ne (by omega)]; exact g2
  · rw [up_ne (by omega), up_ne (by omega)]; exact g3
  · rw [up_ne (by omega), f11]; exact g4
  · rw [up_eq]; exact hg
  · rw [up_ne (by omega), up_ne (by omega)]; exact g6
  · rw [up_ne (by omega), up_ne (by omega)]; exact g7 k' hk'
  · rw [up_ne (by omega), up_ne (by omega)]; exact g8 k' hk'
  · rw [up_ne (j' := 2) (by omega), up_ne (j' := 3) (by omega), up_ne (j' := 4) (by omega), up_ne (j' := 5) (by omega), up_ne (j' := 6) (by omega), up_ne (by omega), up_ne (by omega), up_ne (by omega), up_ne (by omega), up_ne (by omega)]
    refine ⟨(g9 t ht).1, (g9 t ht).2.1, fun q n hn hl => ?_⟩
    rw [up_ne (by omega), up_ne (by omega), up_ne (by omega), up_ne (by omega)]; exact (g9 t ht).2.2 q n hn hl
end
