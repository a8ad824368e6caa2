/-! ===== the last whole commit is looked up ===== -/
def hpF (D : xT) (p n q : Int32) : Nat → Bool
  | 0 => false
  | s + 1 => hpF D p n q s || (decide (D 2 s = 3) && (decide (D 3 s = q) && (decide (D 4 s = p) && decide (D 5 s = n))))
theorem hpF_iff {D : xT} {p n q : Int32} : ∀ {t : Nat}, hpF D p n q t = true ↔ ∃ s, s < t ∧ D 2 s = 3 ∧ D 3 s = q ∧ D 4 s = p ∧ D 5 s = n
  | 0 => ⟨fun h => (by cases h), fun ⟨s, h, _⟩ => absurd h (Nat.not_lt_zero _)⟩
  | t + 1 => by
    unfold hpF
    simp only [Bool.or_eq_true, Bool.and_eq_true, decide_eq_true_eq]
    rw [hpF_iff]
    constructor
    · rintro (⟨s, h, e⟩ | e)
      · exact ⟨s, by omega, e⟩
      · exact ⟨t, by omega, e⟩
    · rintro ⟨s, h, e⟩
      rcases Nat.lt_or_ge s t with c | c
      · exact Or.inl ⟨s, c, e⟩
      · have : s = t := by omega
        rw [this] at e; exact Or.inr e
/-- all parts ahead of the p-th are there -/
def whF (D : xT) (t : Nat) (n q : Int32) : Nat → Bool
  | 0 => true
  | p + 1 => whF D t n q p && hpF D (i3 p) n (q + i3 p) t
theorem whF_iff {D : xT} {t : Nat} {n q : Int32} : ∀ {m : Nat}, whF D t n q m = true ↔ ∀ p, p < m → hpF D (i3 p) n (q + i3 p) t = true
  | 0 => ⟨fun _ p h => absurd h (Nat.not_lt_zero _), fun _ => rfl⟩
  | m + 1 => by
    unfold whF
    rw [Bool.and_eq_true, whF_iff]
    constructor
    · intro h p hp
      rcases Nat.lt_or_ge p m with c | c
      · exact h.1 p c
      · have : p = m := by omega
        rw [this]; exact h.2
    · intro h
      exact ⟨fun p hp => h p (by omega), h m (by omega)⟩
def lookF (D : xT) (t : Nat) : Nat → Int32 × Int32
  | 0 => (0, 0)
  | s + 1 => if D 2 s = 3 ∧ ¬ D 3 s - D 4 s ≤ (lookF D t s).1 ∧ whF D t (D 5 s) (D 3 s - D 4 s) (xi (D 5 s)) = true then (D 3 s - D 4 s, D 5 s) else lookF D t s
def lkX (X : xT) (b : Nat) (y : Int32 × Int32) : xT := fun j k => if j = 0 ∧ k = 22 then i3 b else if j = 0 ∧ k = 20 then y.1 else if j = 0 ∧ k = 21 then y.2 else X j k
theorem lkX_20 (X : xT) (b : Nat) (y : Int32 × Int32) (v : Int32) : up (lkX X b y) 0 20 v = lkX X b (v, y.2) := by
  funext j k
  unfold lkX
  simp only [up_at]
  by_cases c : j = 0
  · by_cases c2 : k = 20
    · simp [c, c2]
    · simp [c, c2]
  · simp [c]
theorem lkX_21 (X : xT) (b : Nat) (y : Int32 × Int32) (v : Int32) : up (lkX X b y) 0 21 v = lkX X b (y.1, v) := by
  funext j k
  unfold lkX
  simp only [up_at]
  by_cases c : j = 0
  · by_cases c2 : k = 21
    · simp [c, c2]
    · simp [c, c2]
  · simp [c]
theorem lkX_new (X : xT) (b : Nat) : up (up (up X 0 22 (i3 b)) 0 20 0) 0 21 0 = lkX X b (0, 0) := by
  funext j k
  unfold lkX
  simp only [up_at]
  by_cases c : j = 0
  · by_cases c2 : k = 21
    · simp [c, c2]
    · by_cases c3 : k = 20 <;> simp [c, c2, c3]
  · simp [c]
theorem lkX_o {X : xT} {b j k : Nat} {y : Int32 × Int32} (h : j ≠ 0 ∨ k ≠ 20 ∧ k ≠ 21 ∧ k ≠ 22) : lkX X b y j k = X j k := by
  unfold lkX; rw [if_neg (by omega), if_neg (by omega), if_neg (by omega)]
section
variable {M : xM} {D X : xT} {C : xC} {fu b L s o : Nat}
theorem Rel_95 {Y : xT} (h : Rel C b D X) (e : ∀ k, Y 95 k = X 95 k) : Rel C b D Y := by
  unfold Rel at h ⊢
  simp only [e]
  exact h
theorem MCfg_90 {Y : xT} (h : MCfg C X) (e : ∀ k, Y 90 k = X 90 k) : MCfg C Y := by
  unfold MCfg at h ⊢
  simp only [e]
  exact h
theorem t_hasPart (h : Lay M) (hC : MCfg C X) (hb : b ≤ 2140) (hB : CB C) (hR : Rel C b D X) (hf : 100 < fu) {p n q : Int32} : F_X12_hasPart fu 0 (i3 b) p n q (mmb X M) = some (bz (hpF D p n q (tot C)), mmb X M) := by
  have h36 := tot36 hB
  unfold F_X12_hasPart
  refine lpc (fun n' i x => L_X12_hasPart_6 fu n' 0 (i3 b) p n q (bz x) (i3 i) (mmb X M)) (hpF D p n q) (tot C) _ ?_ ?_ fu 0 (by omega) (by omega)
  · intro n' i hi
    show L_X12_hasPart_6 fu (n' + 1) 0 (i3 b) p n q (bz (hpF D p n q i)) (i3 i) (mmb X M) = L_X12_hasPart_6 fu n' 0 (i3 b) p n q (bz (hpF D p n q (i + 1))) (i3 (i + 1)) (mmb X M)
    have hr := hR.2.2.2.2.2.2.2.2.2 i hi
    rw [show hpF D p n q (i + 1) = (hpF D p n q i || (decide (D 2 i = 3) && (decide (D 3 i = q) && (decide (D 4 i = p) && decide (D 5 i = n))))) from rfl]
    conv => lhs; unfold L_X12_hasPart_6
    rw [t_all h hC, Option.bind_some, if_neg (by rw [i3_le (by omega) (by omega)]; omega), t_slotAt, Option.bind_some]
    cases w : hpF D p n q i with
    | true =>
      rw [if_pos (by decide), i3_add1]
      rfl
    | false =>
      rw [if_neg (by decide)]
      by_cases k3 : D 2 i = 3
      · obtain ⟨r1, r2, r3, r4⟩ := hr.2.1 (by rw [k3]; decide)
        simp (disch := first | assumption | omega) only [l12_0_1, l12_0_4, l12_0_5, l12_0_6, l12_0_9, l12_0_10, l12_0_11, l12_0_13, l12_0_14, l12_0_15, l12_0_16, l12_0_17, l12_0_18, l12_0_19, l12_0_23, l12_0_24, l12_0_25, l12_0_27, n20_83, n20_84, n20_85, n20_86, n20_87, n20_88, n20_89, n20_90, n20_91, n20_92, n20_93, n20_94, n20_95, n20_96, n20_97, n20_98, n21_2, n21_3, n21_4, n21_5, n21_6, n22_20, m_0, m_1, m_87, m_88, m_89, m_90, m_91, m_92, m_93, m_94, m_95, m_96, m_97, m_98, p_0, p_1, p_87, p_88, p_89, p_90, p_91, p_92, p_93, p_94, p_95, p_96, p_97, p_98, gR_mmb, gN_mmb, gL_mmb, i3_add1, i3_add, i3_mul, i3_addl, i3_mull, i3_ladd, i3_lmul, i3_div4, i3_le, i3_lt, i3_eq, i3_lel, i3_lle, i3_ltl, i3_llt, i3_eql, i3_leq, i3_nl, i3_0l, i3_nn, n1_lt, n1_le, xi_i3, xin_i3, xi_lit, xin_lit, xb0, xb1, gd_t, nz4, Option.bind_some, gR_emb, gN_emb, gL_emb, ↓reduceIte, if_true, if_false, not_true_eq_false, not_false_eq_true, eq_self, Nat.not_lt_zero, Nat.zero_le, true_or, or_true, false_or, or_false, true_and, and_true, false_and, and_false, hr.1, k3, r1, r2, r3]
        by_cases c1 : D 3 i = q <;> by_cases c2 : D 4 i = p <;> by_cases c3 : D 5 i = n <;> simp [c1, c2, c3, bz]
      · simp (disch := first | assumption | omega) only [l12_0_1, l12_0_4, l12_0_5, l12_0_6, l12_0_9, l12_0_10, l12_0_11, l12_0_13, l12_0_14, l12_0_15, l12_0_16, l12_0_17, l12_0_18, l12_0_19, l12_0_23, l12_0_24, l12_0_25, l12_0_27, n20_83, n20_84, n20_85, n20_86, n20_87, n20_88, n20_89, n20_90, n20_91, n20_92, n20_93, n20_94, n20_95, n20_96, n20_97, n20_98, n21_2, n21_3, n21_4, n21_5, n21_6, n22_20, m_0, m_1, m_87, m_88, m_89, m_90, m_91, m_92, m_93, m_94, m_95, m_96, m_97, m_98, p_0, p_1, p_87, p_88, p_89, p_90, p_91, p_92, p_93, p_94, p_95, p_96, p_97, p_98, gR_mmb, gN_mmb, gL_mmb, i3_add1, i3_add, i3_mul, i3_addl, i3_mull, i3_ladd, i3_lmul, i3_div4, i3_le, i3_lt, i3_eq, i3_lel, i3_lle, i3_ltl, i3_llt, i3_eql, i3_leq, i3_nl, i3_0l, i3_nn, n1_lt, n1_le, xi_i3, xin_i3, xi_lit, xin_lit, xb0, xb1, gd_t, nz4, Option.bind_some, gR_emb, gN_emb, gL_emb, ↓reduceIte, if_true, if_false, not_true_eq_false, not_false_eq_true, eq_self, Nat.not_lt_zero, Nat.zero_le, true_or, or_true, false_or, or_false, true_and, and_true, false_and, and_false, hr.1, k3]
        simp [bz]
  · intro n'
    show L_X12_hasPart_6 fu (n' + 1) 0 (i3 b) p n q (bz (hpF D p n q (tot C))) (i3 (tot C)) (mmb X M) = _
    conv => lhs; unfold L_X12_hasPart_6
    rw [t_all h hC, Option.bind_some, if_pos (Int32.le_refl _), bz_x, gd_t]
theorem idx_node (hN : InN C D) {s : Nat} (hs : s < tot C) (hk : D 2 s = 3) : D 3 s = i3 (sq D s) ∧ 1 ≤ sq D s ∧ sq D s ≤ lsN D ∧ ∃ p n c, p < n ∧ n ≤ 6 ∧ c ≤ 4 ∧ p < sq D s ∧ D 4 s = i3 p ∧ D 5 s = i3 n ∧ D 6 s = i3 c ∧
    ∀ i, i < c → ∃ z q, z < 20 ∧ D 7 (s * 4 + i) = i3 z ∧ D 8 (s * 4 + i) = i3 q ∧ 1 ≤ q ∧ q < sq D s := by
  rcases hN s hs with q | q | q
  · rw [hk] at q; exact absurd q.1 (by decide)
  · rw [hk] at q; exact absurd q.1 (by decide)
  · refine ⟨q.1, q.2.1, q.2.2.1, ?_⟩
    rcases q.2.2.2 with r | r | r
    · rw [hk] at r; exact absurd r.1 (by decide)
    · rw [hk] at r; exact absurd r.1 (by decide)
    · exact r.2
theorem t_look84 (h : Lay M) (hC : MCfg C X) (hb : b ≤ 2140) (hB : CB C) (hR : Rel C b D X) (hf : 100 < fu) {s n : Nat} (hs : s < tot C) (hk : D 2 s ≠ 0) (h5 : D 5 s = i3 n) (hn : n ≤ 6) {q : Int32} {y : Int32 × Int32} (k26 : Nat → Int32 → Int32 → xM → Option xM) :
    L_X12_looks_84 fu k26 fu 0 (i3 b) (i3 s) (i3 (b + 34 + 13 * s)) q 1 0 (mmb (lkX X b y) M) = k26 0 (i3 b) (i3 (s + 1)) (mmb (lkX X b (if whF D (tot C) (i3 n) q n = true then (q, i3 n) else y)) M) := by
  have h36 := tot36 hB
  have hR2 : Rel C b D (lkX X b y) := Rel_95 hR (fun k => lkX_o (Or.inl (by decide)))
  have hC2 : MCfg C (lkX X b y) := MCfg_90 hC (fun k => lkX_o (Or.inl (by decide)))
  have hr := (hR2.2.2.2.2.2.2.2.2.2 s hs).2.1 hk
  have e3 : gI (mmb (lkX X b y) M) 20 95 (b + 34 + 13 * s + 3) = i3 n := by rw [m_95, hr.2.2.1, h5]
  refine lpc (fun n' i x => L_X12_looks_84 fu k26 n' 0 (i3 b) (i3 s) (i3 (b + 34 + 13 * s)) q (bz x) (i3 i) (mmb (lkX X b y) M)) (whF D (tot C) (i3 n) q) n _ ?_ ?_ fu 0 (by omega) (by omega)
  · intro n' i hi
    show L_X12_looks_84 fu k26 (n' + 1) 0 (i3 b) (i3 s) (i3 (b + 34 + 13 * s)) q (bz (whF D (tot C) (i3 n) q i)) (i3 i) (mmb (lkX X b y) M) = L_X12_looks_84 fu k26 n' 0 (i3 b) (i3 s) (i3 (b + 34 + 13 * s)) q (bz (whF D (tot C) (i3 n) q (i + 1))) (i3 (i + 1)) (mmb (lkX X b y) M)
    rw [show whF D (tot C) (i3 n) q (i + 1) = (whF D (tot C) (i3 n) q i && hpF D (i3 i) (i3 n) (q + i3 i) (tot C)) from rfl]
    conv => lhs; unfold L_X12_looks_84
    rw [show gR (mmb (lkX X b y) M) 12 0 17 = some 95 from l12_0_17 h]
    simp only [Option.bind_some, show gN (mmb (lkX X b y) M) 20 95 = 2675 from n20_95 h, show (3 : Int32) = i3 3 from rfl, i3_add, i3_add1]
    rw [xin_i3 (by omega) (by omega), gd_t, xi_i3 (by omega), e3, if_neg (by rw [i3_le (by omega) (by omega)]; omega), gd_t]
    cases w : whF D (tot C) (i3 n) q i with
    | false =>
      rw [if_pos (by decide)]
      rfl
    | true =>
      rw [if_neg (by decide), t_hasPart h hC2 hb hB hR2 hf, Option.bind_some]
      cases hpF D (i3 i) (i3 n) (q + i3 i) (tot C) with
      | false => rw [if_pos (show (bz false, mmb (lkX X b y) M).fst = 0 from rfl)]; rfl
      | true => rw [if_neg (show ¬ (bz true, mmb (lkX X b y) M).fst = 0 from (by decide : ¬ bz true = 0))]; rfl
  · intro n'
    show L_X12_looks_84 fu k26 (n' + 1) 0 (i3 b) (i3 s) (i3 (b + 34 + 13 * s)) q (bz (whF D (tot C) (i3 n) q n)) (i3 n) (mmb (lkX X b y) M) = _
    conv => lhs; unfold L_X12_looks_84
    rw [show gR (mmb (lkX X b y) M) 12 0 17 = some 95 from l12_0_17 h]
    simp only [Option.bind_some, show gN (mmb (lkX X b y) M) 20 95 = 2675 from n20_95 h, show (3 : Int32) = i3 3 from rfl, i3_add, i3_add1]
    rw [xin_i3 (by omega) (by omega), gd_t, xi_i3 (by omega), e3, if_pos (Int32.le_refl _)]
    cases w : whF D (tot C) (i3 n) q n with
    | false =>
      rw [if_pos (by decide), if_neg (by decide)]
      unfold J_X12_looks_153
      rw [if_pos (by decide), m_0, p_0, lkX_20, m_0, p_0, lkX_21, i3_add1]
      rfl
    | true =>
      rw [if_neg (by decide), if_pos rfl]
      unfold J_X12_looks_153
      rw [if_neg (by decide), p_0, lkX_20]
      have hR3 : Rel C b D (lkX X b (q, y.2)) := Rel_95 hR (fun k => lkX_o (Or.inl (by decide)))
      have e4 : gI (mmb (lkX X b (q, y.2)) M) 20 95 (b + 34 + 13 * s + 3) = i3 n := by rw [m_95, ((hR3.2.2.2.2.2.2.2.2.2 s hs).2.1 hk).2.2.1, h5]
      rw [show gR (mmb (lkX X b (q, y.2)) M) 12 0 17 = some 95 from l12_0_17 h]
      simp only [Option.bind_some, show gN (mmb (lkX X b (q, y.2)) M) 20 95 = 2675 from n20_95 h, show (3 : Int32) = i3 3 from rfl, i3_add, i3_add1]
      rw [xin_i3 (by omega) (by omega), gd_t, xi_i3 (by omega), e4, p_0, lkX_21]
theorem t_look26 (h : Lay M) (hC : MCfg C X) (hb : b ≤ 2140) (hB : CB C) (hR : Rel C b D X) (hN : InN C D) (hf : 100 < fu) : L_X12_looks_26 fu fu 0 (i3 b) 0 (mmb (lkX X b (0, 0)) M) = some (mmb (lkX X b (lookF D (tot C) (tot C))) M) := by
  have h36 := tot36 hB
  refine lpc (fun n' i x => L_X12_looks_26 fu n' 0 (i3 b) (i3 i) (mmb (lkX X b x) M)) (lookF D (tot C)) (tot C) _ ?_ ?_ fu 0 (by omega) (by omega)
  · intro n' i hi
    show L_X12_looks_26 fu (n' + 1) 0 (i3 b) (i3 i) (mmb (lkX X b (lookF D (tot C) i)) M) = L_X12_looks_26 fu n' 0 (i3 b) (i3 (i + 1)) (mmb (lkX X b (lookF D (tot C) (i + 1))) M)
    rw [show lookF D (tot C) (i + 1) = if D 2 i = 3 ∧ ¬ D 3 i - D 4 i ≤ (lookF D (tot C) i).1 ∧ whF D (tot C) (D 5 i) (D 3 i - D 4 i) (xi (D 5 i)) = true then (D 3 i - D 4 i, D 5 i) else lookF D (tot C) i from rfl]
    generalize lookF D (tot C) i = y
    have hR2 : Rel C b D (lkX X b y) := Rel_95 hR (fun k => lkX_o (Or.inl (by decide)))
    have hC2 : MCfg C (lkX X b y) := MCfg_90 hC (fun k => lkX_o (Or.inl (by decide)))
    have hr := hR2.2.2.2.2.2.2.2.2.2 i hi
    have e20 : lkX X b y 0 20 = y.1 := by unfold lkX; simp
    conv => lhs; unfold L_X12_looks_26
    rw [t_all h hC2, Option.bind_some, if_neg (by rw [i3_le (by omega) (by omega)]; omega), t_slotAt, Option.bind_some]
    by_cases k3 : D 2 i = 3
    · obtain ⟨r1, r2, r3, r4⟩ := hr.2.1 (by rw [k3]; decide)
      obtain ⟨g1, g2, g3, p, n, c, g4, g5, g6, g7, g8, g9, g10, g11⟩ := idx_node hN hi k3
      simp (disch := first | assumption | omega) only [l12_0_1, l12_0_4, l12_0_5, l12_0_6, l12_0_9, l12_0_10, l12_0_11, l12_0_13, l12_0_14, l12_0_15, l12_0_16, l12_0_17, l12_0_18, l12_0_19, l12_0_23, l12_0_24, l12_0_25, l12_0_27, n20_83, n20_84, n20_85, n20_86, n20_87, n20_88, n20_89, n20_90, n20_91, n20_92, n20_93, n20_94, n20_95, n20_96, n20_97, n20_98, n21_2, n21_3, n21_4, n21_5, n21_6, n22_20, m_0, m_1, m_87, m_88, m_89, m_90, m_91, m_92, m_93, m_94, m_95, m_96, m_97, m_98, p_0, p_1, p_87, p_88, p_89, p_90, p_91, p_92, p_93, p_94, p_95, p_96, p_97, p_98, gR_mmb, gN_mmb, gL_mmb, i3_add1, i3_add, i3_mul, i3_addl, i3_mull, i3_ladd, i3_lmul, i3_div4, i3_le, i3_lt, i3_eq, i3_lel, i3_lle, i3_ltl, i3_llt, i3_eql, i3_leq, i3_nl, i3_0l, i3_nn, n1_lt, n1_le, xi_i3, xin_i3, xi_lit, xin_lit, xb0, xb1, gd_t, nz4, Option.bind_some, gR_emb, gN_emb, gL_emb, ↓reduceIte, if_true, if_false, not_true_eq_false, not_false_eq_true, eq_self, Nat.not_lt_zero, Nat.zero_le, true_or, or_true, false_or, or_false, true_and, and_true, false_and, and_false, hr.1, k3, r1, r2, r3, e20]
      by_cases c1 : D 3 i - D 4 i ≤ y.1
      · simp (disch := first | assumption | omega) only [l12_0_1, l12_0_4, l12_0_5, l12_0_6, l12_0_9, l12_0_10, l12_0_11, l12_0_13, l12_0_14, l12_0_15, l12_0_16, l12_0_17, l12_0_18, l12_0_19, l12_0_23, l12_0_24, l12_0_25, l12_0_27, n20_83, n20_84, n20_85, n20_86, n20_87, n20_88, n20_89, n20_90, n20_91, n20_92, n20_93, n20_94, n20_95, n20_96, n20_97, n20_98, n21_2, n21_3, n21_4, n21_5, n21_6, n22_20, m_0, m_1, m_87, m_88, m_89, m_90, m_91, m_92, m_93, m_94, m_95, m_96, m_97, m_98, p_0, p_1, p_87, p_88, p_89, p_90, p_91, p_92, p_93, p_94, p_95, p_96, p_97, p_98, gR_mmb, gN_mmb, gL_mmb, i3_add1, i3_add, i3_mul, i3_addl, i3_mull, i3_ladd, i3_lmul, i3_div4, i3_le, i3_lt, i3_eq, i3_lel, i3_lle, i3_ltl, i3_llt, i3_eql, i3_leq, i3_nl, i3_0l, i3_nn, n1_lt, n1_le, xi_i3, xin_i3, xi_lit, xin_lit, xb0, xb1, gd_t, nz4, Option.bind_some, gR_emb, gN_emb, gL_emb, ↓reduceIte, if_true, if_false, not_true_eq_false, not_false_eq_true, eq_self, Nat.not_lt_zero, Nat.zero_le, true_or, or_true, false_or, or_false, true_and, and_true, false_and, and_false, c1]
      · simp (disch := first | assumption | omega) only [l12_0_1, l12_0_4, l12_0_5, l12_0_6, l12_0_9, l12_0_10, l12_0_11, l12_0_13, l12_0_14, l12_0_15, l12_0_16, l12_0_17, l12_0_18, l12_0_19, l12_0_23, l12_0_24, l12_0_25, l12_0_27, n20_83, n20_84, n20_85, n20_86, n20_87, n20_88, n20_89, n20_90, n20_91, n20_92, n20_93, n20_94, n20_95, n20_96, n20_97, n20_98, n21_2, n21_3, n21_4, n21_5, n21_6, n22_20, m_0, m_1, m_87, m_88, m_89, m_90, m_91, m_92, m_93, m_94, m_95, m_96, m_97, m_98, p_0, p_1, p_87, p_88, p_89, p_90, p_91, p_92, p_93, p_94, p_95, p_96, p_97, p_98, gR_mmb, gN_mmb, gL_mmb, i3_add1, i3_add, i3_mul, i3_addl, i3_mull, i3_ladd, i3_lmul, i3_div4, i3_le, i3_lt, i3_eq, i3_lel, i3_lle, i3_ltl, i3_llt, i3_eql, i3_leq, i3_nl, i3_0l, i3_nn, n1_lt, n1_le, xi_i3, xin_i3, xi_lit, xin_lit, xb0, xb1, gd_t, nz4, Option.bind_some, gR_emb, gN_emb, gL_emb, ↓reduceIte, if_true, if_false, not_true_eq_false, not_false_eq_true, eq_self, Nat.not_lt_zero, Nat.zero_le, true_or, or_true, false_or, or_false, true_and, and_true, false_and, and_false, c1]
        rw [t_look84 h hC hb hB hR hf hi (by rw [k3]; decide) g9 g5, g9, xi_i3 (by omega)]
    · simp (disch := first | assumption | omega) only [l12_0_1, l12_0_4, l12_0_5, l12_0_6, l12_0_9, l12_0_10, l12_0_11, l12_0_13, l12_0_14, l12_0_15, l12_0_16, l12_0_17, l12_0_18, l12_0_19, l12_0_23, l12_0_24, l12_0_25, l12_0_27, n20_83, n20_84, n20_85, n20_86, n20_87, n20_88, n20_89, n20_90, n20_91, n20_92, n20_93, n20_94, n20_95, n20_96, n20_97, n20_98, n21_2, n21_3, n21_4, n21_5, n21_6, n22_20, m_0, m_1, m_87, m_88, m_89, m_90, m_91, m_92, m_93, m_94, m_95, m_96, m_97, m_98, p_0, p_1, p_87, p_88, p_89, p_90, p_91, p_92, p_93, p_94, p_95, p_96, p_97, p_98, gR_mmb, gN_mmb, gL_mmb, i3_add1, i3_add, i3_mul, i3_addl, i3_mull, i3_ladd, i3_lmul, i3_div4, i3_le, i3_lt, i3_eq, i3_lel, i3_lle, i3_ltl, i3_llt, i3_eql, i3_leq, i3_nl, i3_0l, i3_nn, n1_lt, n1_le, xi_i3, xin_i3, xi_lit, xin_lit, xb0, xb1, gd_t, nz4, Option.bind_some, gR_emb, gN_emb, gL_emb, ↓reduceIte, if_true, if_false, not_true_eq_false, not_false_eq_true, eq_self, Nat.not_lt_zero, Nat.zero_le, true_or, or_true, false_or, or_false, true_and, and_true, false_and, and_false, hr.1, k3]
  · intro n'
    show L_X12_looks_26 fu (n' + 1) 0 (i3 b) (i3 (tot C)) (mmb (lkX X b (lookF D (tot C) (tot C))) M) = _
    have hC2 : MCfg C (lkX X b (lookF D (tot C) (tot C))) := MCfg_90 hC (fun k => lkX_o (Or.inl (by decide)))
    conv => lhs; unfold L_X12_looks_26
    rw [t_all h hC2, Option.bind_some, if_pos (Int32.le_refl _)]
theorem look_inv (hA : InA L D) (hN : InN C D) (hS : InS C D) (hC : InC C D) : ∀ i, i ≤ tot C → ∃ cf, lookF D (tot C) i = (i3 cf, (lookF D (tot C) i).2) ∧ cf ≤ fsN D ∧ (cf = fsN D → (lookF D (tot C) i).2 = i3 (wpN D)) ∧ ∀ s, s < i → D 2 s = 3 → isWholeT D s = true → cf = fsN D
  | 0, _ => ⟨0, rfl, Nat.zero_le _, fun e => by
      obtain ⟨a1, a2, a3, a4, a5, a6, a7, a8, a9⟩ := hA
      have : wpN D = 0 := Classical.byContradiction fun q => by unfold fsN at e; rw [if_neg q] at e; omega
      rw [this]; rfl, fun s hs => absurd hs (Nat.not_lt_zero _)⟩
  | i + 1, hi => by
    obtain ⟨cf, h1, h2, h3, h4⟩ := look_inv hA hN hS hC i (by omega)
    have hA' := hA
    obtain ⟨a1, a2, a3, a4, a5, a6, a7, a8, a9⟩ := hA
    have hfs : fsN D ≤ bsN D + 1 := by unfold fsN; split <;> omega
    rw [show lookF D (tot C) (i + 1) = if D 2 i = 3 ∧ ¬ D 3 i - D 4 i ≤ (lookF D (tot C) i).1 ∧ whF D (tot C) (D 5 i) (D 3 i - D 4 i) (xi (D 5 i)) = true then (D 3 i - D 4 i, D 5 i) else lookF D (tot C) i from rfl]
    have e1 : (lookF D (tot C) i).1 = i3 cf := by rw [h1]
    rw [e1]
    by_cases k3 : D 2 i = 3
    · obtain ⟨g1, g2, g3, p, n, c, g4, g5, g6, g7, g8, g9, g10, g11⟩ := idx_node hN (show i < tot C by omega) k3
      have e2 : D 3 i - D 4 i = i3 (sq D i - p) := by rw [g1, g8, i3_sub (by omega)]
      have hw := whole_iff hA' hN hS hC (show i < tot C by omega) k3
      have hl : sq D i < 2147483648 := xi_lt _
      have e3 : (i3 (sq D i - p) = i3 (fsN D)) = (sq D i - p = fsN D) := propext (i3_eq (by omega) (by omega))
      have e4 : (i3 n = i3 (wpN D)) = (n = wpN D) := propext (i3_eq (by omega) (by omega))
      simp only [e2, g9, e3, e4] at hw
      have e5 : (i3 (sq D i - p) ≤ i3 cf) = (sq D i - p ≤ cf) := propext (i3_le (by omega) (by omega))
      rw [e2, g9, xi_i3 (by omega)]
      simp only [e5]
      -- whether the commit of i is whole
      have hall : whF D (tot C) (i3 n) (i3 (sq D i - p)) n = true → sq D i - p ≤ fsN D ∧ (sq D i - p = fsN D → n = wpN D) := by
        intro hwh
        rw [whF_iff] at hwh
        by_cases hb : bsN D < sq D i
        · exfalso
          obtain ⟨p', hp', hno⟩ := hC.2.1 i (by omega) k3 hb
          rw [g9, xi_i3 (by omega)] at hp'
          obtain ⟨t, ht, t1, t2, t3, t4⟩ := hpF_iff.mp (hwh p' hp')
          refine hno t ht ⟨t1, ?_, t3, by rw [t4, g9]⟩
          have q := (idx_node hN ht t1).1
          rw [q, i3_add] at t2
          have t5 : sq D t = sq D i - p + p' := (i3_eq (xi_lt _) (by omega)).mp t2
          rw [g8, xi_i3 (by omega)]
          omega
        · have hw0 : wpN D ≠ 0 := fun q => by have := a9 q; omega
          by_cases hr : bsN D - wpN D < sq D i
          · have : isWholeT D i = true := by
              unfold isWholeT
              rw [k3, g1, a4, a5, i3_sub a7]
              simp only [decide_true, Bool.true_and]
              rw [decide_eq_true ((i3_le (by omega) (by omega)).mpr (by omega)), decide_eq_true ((i3_lt (by omega) (by omega)).mpr hr)]
              rfl
            rw [this] at hw
            have := of_decide_eq_true hw.symm
            exact ⟨by omega, fun _ => this.2⟩
          · have : fsN D = bsN D + 1 - wpN D := by unfold fsN; rw [if_neg hw0]
            exact ⟨by omega, fun q => by omega⟩
      by_cases hc : ¬ sq D i - p ≤ cf ∧ whF D (tot C) (i3 n) (i3 (sq D i - p)) n = true
      · rw [if_pos ⟨k3, hc⟩]
        have q := hall hc.2
        refine ⟨sq D i - p, rfl, q.1, fun e => by show i3 n = _; rw [q.2 e], fun s hs k hk => ?_⟩
        rcases Nat.lt_or_ge s i with d | d
        · have := h4 s d k hk; omega
        · have : s = i := by omega
          rw [this, hw] at hk
          exact (of_decide_eq_true hk).1
      · rw [if_neg (fun q => hc q.2)]
        refine ⟨cf, h1, h2, h3, fun s hs k hk => ?_⟩
        rcases Nat.lt_or_ge s i with d | d
        · exact h4 s d k hk
        · have : s = i := by omega
          rw [this, hw] at hk
          have q := of_decide_eq_true hk
          by_cases c1 : sq D i - p ≤ cf
          · omega
          · exfalso
            apply hc
            refine ⟨c1, whF_iff.mpr (fun p' hp' => hpF_iff.mpr ?_)⟩
            obtain ⟨t, ht, t1, t2, t3, t4⟩ := hC.1 p' (by omega)
            refine ⟨t, ht, t1, ?_, t3, by rw [t4, q.2]⟩
            rw [(idx_node hN ht t1).1, i3_add, t2]
            have hw0 : wpN D ≠ 0 := by omega
            have : fsN D = bsN D + 1 - wpN D := by unfold fsN; rw [if_neg hw0]
            congr 1; omega
    · rw [if_neg (fun q => k3 q.1)]
      refine ⟨cf, h1, h2, h3, fun s hs k hk => ?_⟩
      rcases Nat.lt_or_ge s i with d | d
      · exact h4 s d k hk
      · have : s = i := by omega
        rw [this] at k; exact absurd k k3
theorem look_end (hA : InA L D) (hN : InN C D) (hS : InS C D) (hC : InC C D) : lookF D (tot C) (tot C) = (i3 (fsN D), i3 (wpN D)) := by
  obtain ⟨cf, h1, h2, h3, h4⟩ := look_inv hA hN hS hC (tot C) (Nat.le_refl _)
  have hA' := hA
  obtain ⟨a1, a2, a3, a4, a5, a6, a7, a8, a9⟩ := hA
  have hc : cf = fsN D := by
    by_cases hw : wpN D = 0
    · have : fsN D = 0 := by unfold fsN; rw [if_pos hw]
      omega
    · obtain ⟨t, ht, t1, t2, t3, t4⟩ := hC.1 0 (by omega)
      refine h4 t ht t1 ?_
      rw [whole_iff hA' hN hS hC ht t1]
      refine decide_eq_true ⟨?_, t4⟩
      rw [(idx_node hN ht t1).1, t3, i3_sub (by omega), t2]
      unfold fsN
      rw [if_neg hw]
      rfl
  rw [h1, h3 hc, hc]
/-- the look-up, or the one that stands -/
theorem t_looks (h : Lay M) (hM : MCfg C X) (hb : b ≤ 2140) (hB : CB C) (hR : Rel C b D X) (hA : InA L D) (hN : InN C D) (hS : InS C D) (hC : InC C D) (hL : X 0 22 = i3 b → Lk D X) (hf : 100 < fu) :
    F_X12_looks fu 0 (i3 b) (mmb X M) = some (mmb (lkX X b (i3 (fsN D), i3 (wpN D))) M) := by
  unfold F_X12_looks
  rw [m_0]
  by_cases c : X 0 22 = i3 b
  · rw [if_neg (by simpa using c)]
    have := hL c
    congr 2
    funext j k
    unfold lkX
    by_cases c1 : j = 0 ∧ k = 22
    · rw [if_pos c1, c1.1, c1.2, c]
    · rw [if_neg c1]
      by_cases c2 : j = 0 ∧ k = 20
      · rw [if_pos c2, c2.1, c2.2, this.1]
      · rw [if_neg c2]
        by_cases c3 : j = 0 ∧ k = 21
        · rw [if_pos c3, c3.1, c3.2, this.2]
        · rw [if_neg c3]
  · rw [if_pos c]
    simp only [p_0, lkX_new]
    rw [t_look26 h hM hb hB hR hN hf, look_end hA hN hS hC]
end
