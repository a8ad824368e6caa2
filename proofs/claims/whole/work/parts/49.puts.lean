/-! ===== a node is put ===== -/
theorem up_id {D : xT} {j k : Nat} {v : Int32} (h : D j k = v) : up D j k v = D := by
  funext j' k'
  rw [up_at]
  by_cases c : j' = j ∧ k' = k
  · rw [if_pos c, c.1, c.2, h]
  · rw [if_neg c]
theorem freshF_some {D : xT} {nb k : Nat} (hk : k < nb) (h : D 1 k = D 15 1) (h0 : 0 < D 15 1) : ∃ m, m < nb ∧ freshF D nb = i3 m ∧ D 1 m = D 15 1 := by
  have key : ∀ n, k < n → n ≤ nb → ∃ m, m < n ∧ freshF D n = i3 m ∧ D 1 m = D 15 1 := by
    intro n
    induction n with
    | zero => intro hn; omega
    | succ n ih =>
      intro hn hb
      rw [show freshF D (n + 1) = if (0 < D 15 1 ∧ D 1 n = D 15 1) ∧ (freshF D n < 0 ∨ D 0 n < D 0 (xi (freshF D n))) then i3 n else freshF D n from rfl]
      by_cases c : (0 < D 15 1 ∧ D 1 n = D 15 1) ∧ (freshF D n < 0 ∨ D 0 n < D 0 (xi (freshF D n)))
      · rw [if_pos c]; exact ⟨n, by omega, rfl, c.1.2⟩
      · rw [if_neg c]
        rcases Nat.lt_or_ge k n with q | q
        · obtain ⟨m, h1, h2, h3⟩ := ih q (by omega)
          exact ⟨m, by omega, h2, h3⟩
        · have e : k = n := by omega
          subst e
          rcases freshF_in D k with r | ⟨m, h1, h2, h3, -⟩
          · exact absurd ⟨⟨h0, h⟩, Or.inl (by rw [r]; decide)⟩ c
          · exact ⟨m, by omega, h2, h3⟩
  exact key nb hk (Nat.le_refl _)
theorem eraA_pos {D : xT} {nw : Nat} : ∀ {n : Nat}, 0 < eraA D nw n → ∃ k, k < n ∧ 0 < eraN D nw k nw
  | 0, h => absurd h (Nat.lt_irrefl _)
  | n + 1, h => by
    rw [show eraA D nw (n + 1) = eraA D nw n + eraN D nw n nw from rfl] at h
    by_cases c : 0 < eraN D nw n nw
    · exact ⟨n, by omega, c⟩
    · obtain ⟨k, h1, h2⟩ := eraA_pos (D := D) (nw := nw) (n := n) (by omega)
      exact ⟨k, by omega, h2⟩
/-- where the next node goes -/
def Spot (C : xC) (D : xT) (h l : Nat) : Prop := h < C 0 0 ∧ 0 < l ∧ l ≤ C 0 1 ∧ D 1 h = i3 l ∧ (∀ i, i < C 0 1 → (D 2 (h * C 0 1 + i) = 0 ↔ C 0 1 - l ≤ i))
section
variable {M : xM} {D E X Y Z : xT} {C : xC} {R : Nat → Int32} {fu b d L s o t k n m i j p q f l w nb nw a : Nat} {x y z v u : Int32}
theorem spot_first (hS : Spot C D k l) : firstT D (C 0 1) k = some (C 0 1 - l) := by
  obtain ⟨h1, h2, h3, h4, h5⟩ := hS
  unfold firstT
  refine lst_some.mpr ⟨by omega, decide_eq_true ((h5 _ (by omega)).mpr (Nat.le_refl _)), fun i' hi => decide_eq_false (fun e => ?_)⟩
  have := (h5 i' (by omega)).mp e
  omega
def takeD (D : xT) (h : Nat) : xT := up (up (up D 15 4 (i3 h)) 1 h (D 1 h - 1)) 15 3 (D 15 3 - 1)
theorem take_at (hS : Spot C D k l) (hh : D 15 4 = i3 k) : takeAt D (C 0 1) k = (some (k * C 0 1 + (C 0 1 - l)), takeD D k) := by
  unfold takeAt
  rw [spot_first hS]
  unfold takeD
  rw [up_id hh]
theorem Spot_head (hS : Spot C D k l) : Spot C (up D 15 4 v) k l := by
  obtain ⟨h1, h2, h3, h4, h5⟩ := hS
  refine ⟨h1, h2, h3, by rw [up_ne (by omega)]; exact h4, fun i' hi => by rw [up_ne (by omega)]; exact h5 i' hi⟩
/-- both sides take the same slot -/
theorem take_both (h : Lay M) (hM : MCfg C X) (hb : b ≤ 2140) (hB : CB C) (hR : Rel C b D X) (hO : Ok (C 0 0) (C 0 1) D) (hI : InB C D) (he : ¬ D 15 3 = 0) (hf : 100 < fu) :
    ∃ k l, Spot C D k l ∧ takeT D (C 0 0) (C 0 1) = (some (k * C 0 1 + (C 0 1 - l)), takeD D k) ∧ F_X12_puts fu 0 (i3 b) (mmb X M) = J_X12_puts_37 fu 0 (i3 b) (i3 k) (mmb (up X 95 (b + 1) (i3 k)) M) := by
  have h6 := hB.1
  have h61 := hB.2.1
  have o4 := hO.2.2.2.1
  have r1 := hR.2.1
  have hA : 0 < eraA D (C 0 1) (C 0 0) := by
    rcases Nat.eq_zero_or_pos (eraA D (C 0 1) (C 0 0)) with e | e
    · exact absurd (by rw [hI.1, e]; rfl) he
    · exact e
  have front : F_X12_puts fu 0 (i3 b) (mmb X M) = if D 15 4 < 0 then J_X12_puts_22 fu 0 (i3 b) (mmb X M) else (F_X12_erasedIn fu 0 (i3 b) (D 15 4) (mmb X M)).bind fun p_3 => if ¬ p_3.1 = 0 then J_X12_puts_37 fu 0 (i3 b) (D 15 4) p_3.2 else J_X12_puts_22 fu 0 (i3 b) p_3.2 := by
    unfold F_X12_puts
    simp (disch := first | assumption | omega) only [l12_0_1, l12_0_4, l12_0_5, l12_0_6, l12_0_9, l12_0_10, l12_0_11, l12_0_13, l12_0_14, l12_0_15, l12_0_16, l12_0_17, l12_0_18, l12_0_19, l12_0_23, l12_0_24, l12_0_25, l12_0_27, n20_83, n20_84, n20_85, n20_86, n20_87, n20_88, n20_89, n20_90, n20_91, n20_92, n20_93, n20_94, n20_95, n20_96, n20_97, n20_98, n21_2, n21_3, n21_4, n21_5, n21_6, n22_20, m_0, m_1, m_87, m_88, m_89, m_90, m_91, m_92, m_93, m_94, m_95, m_96, m_97, m_98, p_0, p_1, p_87, p_88, p_89, p_90, p_91, p_92, p_93, p_94, p_95, p_96, p_97, p_98, gR_mmb, gN_mmb, gL_mmb, i3_add1, i3_add, i3_mul, i3_addl, i3_mull, i3_ladd, i3_lmul, i3_div4, i3_le, i3_lt, i3_eq, i3_lel, i3_lle, i3_ltl, i3_llt, i3_eql, i3_leq, i3_nl, i3_0l, i3_nn, n1_lt, n1_le, xi_i3, xin_i3, xi_lit, xin_lit, xb0, xb1, gd_t, nz4, Option.bind_some, gR_emb, gN_emb, gL_emb, ↓reduceIte, if_true, if_false, not_true_eq_false, not_false_eq_true, eq_self, Nat.not_lt_zero, Nat.zero_le, true_or, or_true, false_or, or_false, true_and, and_true, false_and, and_false, r1]
  have fresh : (D 15 4 < 0 ∨ D 1 (xi (D 15 4)) = 0) → ∃ k l, Spot C D k l ∧ takeT D (C 0 0) (C 0 1) = (some (k * C 0 1 + (C 0 1 - l)), takeD D k) ∧ J_X12_puts_22 fu 0 (i3 b) (mmb X M) = J_X12_puts_37 fu 0 (i3 b) (i3 k) (mmb (up X 95 (b + 1) (i3 k)) M) := by
    intro hc
    obtain ⟨k, hk, hk2⟩ := eraA_pos hA
    obtain ⟨l, l1, l2, l3, l4⟩ := hI.2 k hk
    rw [era_l l1 l3] at hk2
    have hne : ¬ D 15 4 = i3 k := by
      intro e
      rcases hc with q | q
      · rw [e] at q; exact (i3_nl (a := k) (by omega)).mp q
      · rw [e, xi_i3 (by omega), l2] at q
        have := (i3_eq (b := 0) (by omega) (by omega)).mp q
        omega
    have hlw : l = C 0 1 := by
      rcases l4 with q | q | q
      · exact absurd q hne
      · omega
      · exact q
    have e0 : (0 : Int32) < D 15 1 := by rw [o4]; exact (i3_lt (a := 0) (by omega) (by omega)).mpr (by omega)
    obtain ⟨m, m1, m2, m3⟩ := freshF_some hk (by rw [l2, o4, hlw]) e0
    obtain ⟨l', k1, k2, k3, k4⟩ := hI.2 m m1
    have hl' : l' = C 0 1 := by
      rw [k2, o4] at m3
      exact (i3_eq (by omega) (by omega)).mp m3
    have hSp : Spot C D m l' := ⟨m1, by omega, k1, k2, k3⟩
    refine ⟨m, l', hSp, ?_, ?_⟩
    · unfold takeT
      rw [if_pos hc, m2]
      simp only [i3_nl (show m < 2147483648 by omega), if_false, xi_i3 (show m < 2147483648 by omega)]
      rw [take_at (Spot_head hSp) up_eq]
      unfold takeD
      rw [up_id (D := up D 15 4 (i3 m)) up_eq, up_ne (j := 15) (k := 4) (j' := 1) (by omega), up_ne (j := 15) (k := 4) (j' := 15) (k' := 3) (by omega)]
    · unfold J_X12_puts_22
      rw [t_freshBlock h hM hb hB hR hO hI (by omega) hf, Option.bind_some, m2]
      simp (disch := first | assumption | omega) only [l12_0_1, l12_0_4, l12_0_5, l12_0_6, l12_0_9, l12_0_10, l12_0_11, l12_0_13, l12_0_14, l12_0_15, l12_0_16, l12_0_17, l12_0_18, l12_0_19, l12_0_23, l12_0_24, l12_0_25, l12_0_27, n20_83, n20_84, n20_85, n20_86, n20_87, n20_88, n20_89, n20_90, n20_91, n20_92, n20_93, n20_94, n20_95, n20_96, n20_97, n20_98, n21_2, n21_3, n21_4, n21_5, n21_6, n22_20, m_0, m_1, m_87, m_88, m_89, m_90, m_91, m_92, m_93, m_94, m_95, m_96, m_97, m_98, p_0, p_1, p_87, p_88, p_89, p_90, p_91, p_92, p_93, p_94, p_95, p_96, p_97, p_98, gR_mmb, gN_mmb, gL_mmb, i3_add1, i3_add, i3_mul, i3_addl, i3_mull, i3_ladd, i3_lmul, i3_div4, i3_le, i3_lt, i3_eq, i3_lel, i3_lle, i3_ltl, i3_llt, i3_eql, i3_leq, i3_nl, i3_0l, i3_nn, n1_lt, n1_le, xi_i3, xin_i3, xi_lit, xin_lit, xb0, xb1, gd_t, nz4, Option.bind_some, gR_emb, gN_emb, gL_emb, ↓reduceIte, if_true, if_false, not_true_eq_false, not_false_eq_true, eq_self, Nat.not_lt_zero, Nat.zero_le, true_or, or_true, false_or, or_false, true_and, and_true, false_and, and_false]
  rcases hO.2.2.2.2.2.1 with e | ⟨k, hk, e⟩
  · obtain ⟨m, l, q1, q2, q3⟩ := fresh (Or.inl (by rw [e]; decide))
    refine ⟨m, l, q1, q2, ?_⟩
    rw [front, e, if_pos (by decide)]
    exact q3
  · obtain ⟨l, l1, l2, l3, l4⟩ := hI.2 k hk
    have hk2 : k < 2147483648 := by omega
    have e2 : ¬ D 15 4 < 0 := by rw [e]; exact fun q => (i3_nl hk2).mp q
    by_cases c : l = 0
    · have e3 : D 1 (xi (D 15 4)) = 0 := by rw [e, xi_i3 hk2, l2, c]; rfl
      obtain ⟨m, l', q1, q2, q3⟩ := fresh (Or.inr e3)
      refine ⟨m, l', q1, q2, ?_⟩
      rw [front, if_neg e2, e, t_erasedIn h hM hb hB hR hf hk, Option.bind_some, era_l l1 l3, c]
      rw [if_neg (fun q => q rfl)]
      exact q3
    · have hSp : Spot C D k l := ⟨hk, by omega, l1, l2, l3⟩
      have e3 : ¬ (D 15 4 < 0 ∨ D 1 (xi (D 15 4)) = 0) := by
        rintro (q | q)
        · exact e2 q
        · rw [e, xi_i3 hk2, l2] at q
          exact c ((i3_eq (b := 0) (by omega) (by omega)).mp q)
      refine ⟨k, l, hSp, ?_, ?_⟩
      · unfold takeT
        rw [if_neg e3, e, xi_i3 hk2]
        exact take_at hSp e
      · have e4 : ¬ (i3 l = 0) := fun q => c ((i3_eq (b := 0) (by omega) (by omega)).mp q)
        rw [front, if_neg e2, e, t_erasedIn h hM hb hB hR hf hk, Option.bind_some, era_l l1 l3, if_pos e4, up_id (by rw [r1, e])]
/-- the row behind the put: k the head, s the slot, torn or not -/
def putX (X : xT) (b h s : Nat) (torn : Bool) (N : Nat → Int32) : xT := fun j k =>
  if j = 0 ∧ k = 22 then -1 else if j = 95 ∧ k = b + 3 then (if X 95 (b + 3) ≤ 0 then X 95 (b + 3) else X 95 (b + 3) - 1) else if j = 95 ∧ k = b + 6 then X 95 (b + 6) + 1
  else if j = 95 ∧ b + 34 + 13 * s ≤ k ∧ k < b + 34 + 13 * s + 13 then (if torn then -1 else N (k - (b + 34 + 13 * s))) else if j = 95 ∧ k = b + 1 then i3 h else X j k
def offX (X : xT) (b : Nat) : xT := fun j k => if j = 95 ∧ b + 14 ≤ k ∧ k < b + 34 then 0 else if j = 95 ∧ (k = b + 2 ∨ k = b + 3 ∨ k = b + 4 ∨ k = b + 5) then 0 else X j k
theorem t_powersOff (h : Lay M) (hb : b ≤ 2140) (hf : 100 < fu) : F_X12_powersOff fu 0 (i3 b) (mmb X M) = some (mmb (offX X b) M) := by
  unfold F_X12_powersOff
  have key := lpc (fun n i (Y : xT) => L_X12_powersOff_2 fu n 0 (i3 b) (i3 i) (mmb Y M)) (fun i => (fun j k => if j = 95 ∧ b + 14 ≤ k ∧ k < b + 14 + i then 0 else X j k)) 20 (some (mmb (offX X b) M)) ?_ ?_ fu 0 (by omega) (by omega)
  · have g0 : (fun j k => if j = 95 ∧ b + 14 ≤ k ∧ k < b + 14 + 0 then 0 else X j k : xT) = X := by funext j k; rw [if_neg (by omega)]
    rw [g0] at key; exact key
  · intro n i hi
    show L_X12_powersOff_2 fu (n + 1) 0 (i3 b) (i3 i) (mmb _ M) = L_X12_powersOff_2 fu n 0 (i3 b) (i3 (i + 1)) (mmb _ M)
    conv => lhs; unfold L_X12_powersOff_2
    simp (disch := first | assumption | omega) only [l12_0_1, l12_0_4, l12_0_5, l12_0_6, l12_0_9, l12_0_10, l12_0_11, l12_0_13, l12_0_14, l12_0_15, l12_0_16, l12_0_17, l12_0_18, l12_0_19, l12_0_23, l12_0_24, l12_0_25, l12_0_27, n20_83, n20_84, n20_85, n20_86, n20_87, n20_88, n20_89, n20_90, n20_91, n20_92, n20_93, n20_94, n20_95, n20_96, n20_97, n20_98, n21_2, n21_3, n21_4, n21_5, n21_6, n22_20, m_0, m_1, m_87, m_88, m_89, m_90, m_91, m_92, m_93, m_94, m_95, m_96, m_97, m_98, p_0, p_1, p_87, p_88, p_89, p_90, p_91, p_92, p_93, p_94, p_95, p_96, p_97, p_98, gR_mmb, gN_mmb, gL_mmb, i3_add1, i3_add, i3_mul, i3_addl, i3_mull, i3_ladd, i3_lmul, i3_div4, i3_le, i3_lt, i3_eq, i3_lel, i3_lle, i3_ltl, i3_llt, i3_eql, i3_leq, i3_nl, i3_0l, i3_nn, n1_lt, n1_le, xi_i3, xin_i3, xi_lit, xin_lit, xb0, xb1, gd_t, nz4, Option.bind_some, gR_emb, gN_emb, gL_emb, ↓reduceIte, if_true, if_false, not_true_eq_false, not_false_eq_true, eq_self, Nat.not_lt_zero, Nat.zero_le, true_or, or_true, false_or, or_false, true_and, and_true, false_and, and_false]
    rw [if_neg (by omega)]
    congr 2
    funext j k
    simp only [up_at]
    by_cases c : j = 95
    · by_cases c2 : k = b + 14 + i
      · simp [c, c2]
      · have q : (k < b + 14 + (i + 1)) = (k < b + 14 + i) := by apply propext; omega
        simp [c, c2, q]
    · simp [c]
  · intro n
    show L_X12_powersOff_2 fu (n + 1) 0 (i3 b) (i3 20) (mmb _ M) = _
    conv => lhs; unfold L_X12_powersOff_2
    simp (disch := first | assumption | omega) only [l12_0_1, l12_0_4, l12_0_5, l12_0_6, l12_0_9, l12_0_10, l12_0_11, l12_0_13, l12_0_14, l12_0_15, l12_0_16, l12_0_17, l12_0_18, l12_0_19, l12_0_23, l12_0_24, l12_0_25, l12_0_27, n20_83, n20_84, n20_85, n20_86, n20_87, n20_88, n20_89, n20_90, n20_91, n20_92, n20_93, n20_94, n20_95, n20_96, n20_97, n20_98, n21_2, n21_3, n21_4, n21_5, n21_6, n22_20, m_0, m_1, m_87, m_88, m_89, m_90, m_91, m_92, m_93, m_94, m_95, m_96, m_97, m_98, p_0, p_1, p_87, p_88, p_89, p_90, p_91, p_92, p_93, p_94, p_95, p_96, p_97, p_98, gR_mmb, gN_mmb, gL_mmb, i3_add1, i3_add, i3_mul, i3_addl, i3_mull, i3_ladd, i3_lmul, i3_div4, i3_le, i3_lt, i3_eq, i3_lel, i3_lle, i3_ltl, i3_llt, i3_eql, i3_leq, i3_nl, i3_0l, i3_nn, n1_lt, n1_le, xi_i3, xin_i3, xi_lit, xin_lit, xb0, xb1, gd_t, nz4, Option.bind_some, gR_emb, gN_emb, gL_emb, ↓reduceIte, if_true, if_false, not_true_eq_false, not_false_eq_true, eq_self, Nat.not_lt_zero, Nat.zero_le, true_or, or_true, false_or, or_false, true_and, and_true, false_and, and_false, Nat.le_refl]
    congr 2
    unfold offX
    funext j k
    simp only [up_at]
    by_cases c : j = 95
    · subst c
      by_cases c3 : k = b + 3
      · simp [c3]
      · by_cases c2 : k = b + 2
        · simp [c2]
        · by_cases c5 : k = b + 5
          · simp [c5]
          · by_cases c4 : k = b + 4
            · simp [c4]
            · simp [c2, c3, c4, c5]
    · simp [c]
end
