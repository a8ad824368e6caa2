/-! ===== a mount, in the reference: the last whole commit ===== -/
/-- the reference along a mount -/
def MI (C : xC) (b : Nat) (D X : xT) (G : Nat → Int32) (x y : Int32) (Y : xT) : Prop := Rel C b (mnT D G x y) Y ∧ (∀ j k, j ≠ 95 → Y j k = lkX X b (i3 (fsN D), i3 (wpN D)) j k) ∧ ∀ k, (k < b ∨ b + 502 ≤ k ∨ k = b + 6) → Y 95 k = X 95 k
/-- entries of the whole commit in slots below s, and of slot s the first i -/
def WEp (D : xT) (s i a q : Nat) : Prop := WEl D s a q ∨ ∃ j, j < i ∧ xi (D 7 (s * 4 + j)) = a ∧ xi (D 8 (s * 4 + j)) = q
def PA (C : xC) (D : xT) (G : Nat → Int32) (W : Nat → Nat → Prop) : Prop := ∀ a, a < 20 → ∃ v, G a = i3 v ∧ v < 2147483648 ∧ ((W a v ∧ DAl D (tot C) a v ∧ 0 < v) ∨ (v = 0 ∧ ∀ q, ¬ (W a q ∧ DAl D (tot C) a q)))
section
variable {M : xM} {D E X Y Z T P X' E' E0 E'' X'' : xT} {C : xC} {R N G G' : Nat → Int32} {fu b d L L' s o t k n m i j p q f l w nb nw a at' r g c : Nat} {x y z v u : Int32} {nt : Bool} {K : Nat → Int32 → Int32 → xM → Option (Int32 × xM)}
theorem MI_map (h : MI C b D X G x y Y) (ha : a < 20) : MI C b D X (fun k => if k = a then v else G k) x y (up Y 95 (b + 14 + a) v) := by
  obtain ⟨h1, h2, h3⟩ := h
  refine ⟨Rel_mn h1 (fun k hk => up_ne (by omega)) ?_ ?_ (fun k hk => ?_), fun j k hj => by rw [up_ne (by omega)]; exact h2 j k hj, fun k hk => by rw [up_ne (by omega)]; exact h3 k hk⟩
  · rw [up_ne (by omega)]; exact h1.1.trans mn_1410
  · rw [up_ne (by omega)]; exact h1.2.1.trans mn_144
  · by_cases c : k = a
    · rw [if_pos c, c, up_eq]
    · rw [if_neg c, up_ne (by omega)]; exact (h1.2.2.2.2.2.2.2.2.1 k hk).trans (mn_9 hk)
theorem MI_unm (h : MI C b D X G x y Y) (hf : f < 5) : MI C b D X (fun k => if k / 4 = f then 0 else G k) x y (unmX Y b f) := by
  obtain ⟨h1, h2, h3⟩ := h
  refine ⟨Rel_mn h1 (fun k hk => unmX_o (by omega)) ?_ ?_ (fun k hk => ?_), fun j k hj => by rw [unmX_o (by omega)]; exact h2 j k hj, fun k hk => by rw [unmX_o (by omega)]; exact h3 k hk⟩
  · rw [unmX_o (by omega)]; exact h1.1.trans mn_1410
  · rw [unmX_o (by omega)]; exact h1.2.1.trans mn_144
  · by_cases c : k / 4 = f
    · rw [if_pos c]; unfold unmX; exact if_pos (by omega)
    · rw [if_neg c, unmX_o (by omega)]; exact (h1.2.2.2.2.2.2.2.2.1 k hk).trans (mn_9 hk)
theorem MI_cfg (h : MI C b D X G x y Y) (hM : MCfg C X) : MCfg C Y := MCfg_90 hM (fun k => (h.2.1 90 k (by decide)).trans (lkX_o (Or.inl (by decide))))
theorem MI_lk (h : MI C b D X G x y Y) : Y 0 20 = i3 (fsN D) ∧ Y 0 21 = i3 (wpN D) ∧ Y 0 22 = i3 b := by
  refine ⟨(h.2.1 0 20 (by decide)).trans ?_, (h.2.1 0 21 (by decide)).trans ?_, (h.2.1 0 22 (by decide)).trans ?_⟩ <;> (unfold lkX; simp)
theorem MI_n (h : MI C b D X G x y Y) (hs : s < tot C) : Y 95 (b + 34 + 13 * s) = D 2 s ∧ (D 2 s ≠ 0 → Y 95 (b + 34 + 13 * s + 1) = D 3 s ∧ Y 95 (b + 34 + 13 * s + 2) = D 4 s ∧ Y 95 (b + 34 + 13 * s + 3) = D 5 s ∧ Y 95 (b + 34 + 13 * s + 4) = D 6 s) ∧
    (D 2 s = 3 → ∀ n, n < 4 → i3 n < D 6 s → Y 95 (b + 34 + 13 * s + 5 + 2 * n) = D 7 (s * 4 + n) ∧ Y 95 (b + 34 + 13 * s + 6 + 2 * n) = D 8 (s * 4 + n)) := by
  have := h.1.2.2.2.2.2.2.2.2.2 s hs
  simp only [mn_n (show (2 : Nat) ≤ 8 by omega), mn_n (show (3 : Nat) ≤ 8 by omega), mn_n (show (4 : Nat) ≤ 8 by omega), mn_n (show (5 : Nat) ≤ 8 by omega), mn_n (show (6 : Nat) ≤ 8 by omega), mn_n (show (7 : Nat) ≤ 8 by omega), mn_n (show (8 : Nat) ≤ 8 by omega)] at this
  refine ⟨this.1, this.2.1, fun q n hn hl => ?_⟩
  rw [Nat.add_assoc (b + 34 + 13 * s) 5, Nat.add_assoc (b + 34 + 13 * s) 6]
  exact this.2.2 q n hn hl
theorem MI_slot (h : Lay M) (hM : MCfg C X) (hb : b ≤ 2140) (hB : CB C) (hY : MI C b D X G x y Y) (hz : z ≠ 0) (hf : 100 < fu) : F_X12_slotOf fu 0 (i3 b) z v (mmb Y M) = some (on (lst (fun s => decide (D 2 s = z) && decide (D 3 s = v)) (tot C)), mmb Y M) := by
  have := t_slotOf (fu := fu) (M := M) (x := v) h (MI_cfg hY hM) hb hB hY.1 hz hf
  simp only [mn_n (show (2 : Nat) ≤ 8 by omega), mn_n (show (3 : Nat) ≤ 8 by omega)] at this
  exact this
theorem MI_type (h : Lay M) (hb : b ≤ 2140) (hB : CB C) (hY : MI C b D X G x y Y) (hs : s < tot C) : F_X12_typeOf fu 0 (i3 b) (i3 s) (mmb Y M) = some (D 2 s, mmb Y M) := by
  have := t_typeOf (fu := fu) (M := M) h hb hB hY.1 hs
  rw [mn_n (by omega)] at this
  exact this
theorem MI_number (h : Lay M) (hb : b ≤ 2140) (hB : CB C) (hY : MI C b D X G x y Y) (hs : s < tot C) (hk : D 2 s ≠ 0) : F_X12_numberOf fu 0 (i3 b) (i3 s) (mmb Y M) = some (D 3 s, mmb Y M) := by
  have := t_numberOf (fu := fu) (M := M) h hb hB hY.1 hs (by rw [mn_n (by omega)]; exact hk)
  rw [mn_n (by omega)] at this
  exact this
theorem dat_some (hN : InN C D) (hz : z = 1 ∨ z = 2) (hq : q < 2147483648) (h : lst (fun s => decide (D 2 s = z) && decide (D 3 s = i3 q)) (tot C) = some o) : o < tot C ∧ D 2 o = z ∧ sq D o = q := by
  have := lst_some.mp h
  simp only [Bool.and_eq_true, decide_eq_true_eq] at this
  refine ⟨this.1, this.2.1.1, ?_⟩
  unfold sq
  rw [this.2.1.2, xi_i3 hq]
theorem dat_none (hN : InN C D) (hz : z = 1 ∨ z = 2) (h : lst (fun s => decide (D 2 s = z) && decide (D 3 s = i3 q)) (tot C) = none) : ∀ o, o < tot C → D 2 o = z → sq D o ≠ q := by
  intro o ho hk he
  have := lst_none.mp h o ho
  have hn : isN D o := by rcases hz with e | e <;> rw [e] at hk; exact Or.inl hk; exact Or.inr (Or.inl hk)
  have hq := (node_seq (hN o ho) hn).1
  rw [he] at hq
  simp [hk, hq] at this
/-- the entries of one part -/
theorem t_mnt101 (h : Lay M) (hM : MCfg C X) (hb : b ≤ 2140) (hB : CB C) (hA : InA L D) (hN : InN C D) (hS : InS C D) (hC : InC C D) (hf : 100 < fu) (hs : s < tot C) (hw : isWholeT D s = true) (hc : D 6 s = i3 c) (hc4 : c ≤ 4) :
    ∀ m i n G Y, i + m = c → m < n → MI C b D X G x y Y → PA C D G (WEp D s i) → ∃ G' Y', L_X12_mounts_101 fu K n 0 (i3 b) (i3 s) (i3 (b + 34 + 13 * s)) 1 (i3 i) (mmb Y M) = K 0 (i3 b) (i3 (s + 1)) (mmb Y' M) ∧ MI C b D X G' x y Y' ∧ PA C D G' (WEp D s c) := by
  have h36 := tot36 hB
  have hk := whole_3 hw
  intro m
  induction m with
  | zero =>
    intro i n G Y hi hn hY hP
    obtain ⟨n, rfl⟩ : ∃ k, n = k + 1 := ⟨n - 1, by omega⟩
    have e : i = c := by omega
    subst e
    have e4 := ((MI_n hY hs).2.1 (by rw [hk]; decide)).2.2.2
    rw [hc] at e4
    refine ⟨G, Y, ?_, hY, hP⟩
    conv => lhs; unfold L_X12_mounts_101
    rw [if_neg (by decide)]
    simp (disch := first | assumption | omega) only [l12_0_1, l12_0_4, l12_0_5, l12_0_6, l12_0_9, l12_0_10, l12_0_11, l12_0_13, l12_0_14, l12_0_15, l12_0_16, l12_0_17, l12_0_18, l12_0_19, l12_0_23, l12_0_24, l12_0_25, l12_0_27, n20_83, n20_84, n20_85, n20_86, n20_87, n20_88, n20_89, n20_90, n20_91, n20_92, n20_93, n20_94, n20_95, n20_96, n20_97, n20_98, n21_2, n21_3, n21_4, n21_5, n21_6, n22_20, m_0, m_1, m_87, m_88, m_89, m_90, m_91, m_92, m_93, m_94, m_95, m_96, m_97, m_98, p_0, p_1, p_87, p_88, p_89, p_90, p_91, p_92, p_93, p_94, p_95, p_96, p_97, p_98, gR_mmb, gN_mmb, gL_mmb, i3_add1, i3_add, i3_mul, i3_addl, i3_mull, i3_ladd, i3_lmul, i3_div4, i3_le, i3_lt, i3_eq, i3_lel, i3_lle, i3_ltl, i3_llt, i3_eql, i3_leq, i3_nl, i3_0l, i3_nn, n1_lt, n1_le, xi_i3, xin_i3, xi_lit, xin_lit, xb0, xb1, gd_t, nz4, Option.bind_some, gR_emb, gN_emb, gL_emb, ↓reduceIte, if_true, if_false, not_true_eq_false, not_false_eq_true, eq_self, Nat.not_lt_zero, Nat.zero_le, true_or, or_true, false_or, or_false, true_and, and_true, false_and, and_false, e4]
    rw [if_pos (Nat.le_refl _)]
  | succ m ih =>
    intro i n G Y hi hn hY hP
    obtain ⟨n, rfl⟩ : ∃ k, n = k + 1 := ⟨n - 1, by omega⟩
    have e4 := ((MI_n hY hs).2.1 (by rw [hk]; decide)).2.2.2
    rw [hc] at e4
    have e56 := (MI_n hY hs).2.2 hk i (by omega) (by rw [hc]; exact (i3_lt (by omega) (by omega)).mpr (by omega))
    obtain ⟨n1, n2, n3, p, n', c', n4, n5, n6, n7, n8, n9, n10, n11⟩ := idx_node hN hs hk
    have ecc : c' = c := by rw [hc] at n10; exact ((i3_eq (by omega) (by omega)).mp n10).symm
    subst ecc
    obtain ⟨z0, q, m1, m2, m3, m4, m5⟩ := n11 i (by omega)
    have hql : q < 2147483648 := by have : sq D s < 2147483648 := xi_lt _; omega
    rw [m2, m3] at e56
    obtain ⟨e5, e6⟩ := e56
    have hnew : ∀ a r, WEp D s (i + 1) a r → WEp D s i a r ∨ (a = z0 ∧ r = q) := by
      intro a r hwe
      rcases hwe with w | ⟨j, j1, j2, j3⟩
      · exact Or.inl (Or.inl w)
      · rcases Nat.lt_or_ge j i with cj | cj
        · exact Or.inl (Or.inr ⟨j, cj, j2, j3⟩)
        · have : j = i := by omega
          subst this
          rw [m2, xi_i3 (by omega)] at j2
          rw [m3, xi_i3 hql] at j3
          exact Or.inr ⟨j2.symm, j3.symm⟩
    have hup : ∀ a r, WEp D s i a r → WEp D s (i + 1) a r := by
      intro a r hwe
      rcases hwe with w | ⟨j, j1, j2⟩
      · exact Or.inl w
      · exact Or.inr ⟨j, by omega, j2⟩
    conv => enter [1, G', 1, Y', 1, 1]; unfold L_X12_mounts_101
    rw [if_neg (by decide)]
    simp (disch := first | assumption | omega) only [l12_0_1, l12_0_4, l12_0_5, l12_0_6, l12_0_9, l12_0_10, l12_0_11, l12_0_13, l12_0_14, l12_0_15, l12_0_16, l12_0_17, l12_0_18, l12_0_19, l12_0_23, l12_0_24, l12_0_25, l12_0_27, n20_83, n20_84, n20_85, n20_86, n20_87, n20_88, n20_89, n20_90, n20_91, n20_92, n20_93, n20_94, n20_95, n20_96, n20_97, n20_98, n21_2, n21_3, n21_4, n21_5, n21_6, n22_20, m_0, m_1, m_87, m_88, m_89, m_90, m_91, m_92, m_93, m_94, m_95, m_96, m_97, m_98, p_0, p_1, p_87, p_88, p_89, p_90, p_91, p_92, p_93, p_94, p_95, p_96, p_97, p_98, gR_mmb, gN_mmb, gL_mmb, i3_add1, i3_add, i3_mul, i3_addl, i3_mull, i3_ladd, i3_lmul, i3_div4, i3_le, i3_lt, i3_eq, i3_lel, i3_lle, i3_ltl, i3_llt, i3_eql, i3_leq, i3_nl, i3_0l, i3_nn, n1_lt, n1_le, xi_i3, xin_i3, xi_lit, xin_lit, xb0, xb1, gd_t, nz4, Option.bind_some, gR_emb, gN_emb, gL_emb, ↓reduceIte, if_true, if_false, not_true_eq_false, not_false_eq_true, eq_self, Nat.not_lt_zero, Nat.zero_le, true_or, or_true, false_or, or_false, true_and, and_true, false_and, and_false, e4, e5, e6]
    rw [if_neg (by omega), MI_slot h hM hb hB hY (by decide) hf]
    simp only [Option.bind_some]
    cases hl : lst (fun s => decide (D 2 s = 1) && decide (D 3 s = i3 q)) (tot C) with
    | none =>
      have hno := dat_none hN (Or.inl rfl) hl
      rw [if_pos (show on none < 0 from by decide)]
      refine ih (i + 1) n G Y (by omega) (by omega) hY (fun a ha => ?_)
      obtain ⟨v, v1, v2, v3⟩ := hP a ha
      refine ⟨v, v1, v2, ?_⟩
      rcases v3 with ⟨w1, w2⟩ | ⟨w1, w2⟩
      · exact Or.inl ⟨hup a v w1, w2⟩
      · refine Or.inr ⟨w1, fun r ⟨q1, q2⟩ => ?_⟩
        rcases hnew a r q1 with w | ⟨-, er⟩
        · exact w2 r ⟨w, q2⟩
        · obtain ⟨o, o1, o2, o3, o4⟩ := q2
          exact hno o o1 o2 (by rw [o4, er])
    | some o =>
      obtain ⟨o1, o2, o3⟩ := dat_some hN (Or.inl rfl) hql hl
      have hwq : WEl D (tot C) z0 q := ⟨s, i, hs, hw, by rw [hc, xi_i3 (by omega)]; omega, by rw [m2, xi_i3 (by omega)], by rw [m3, xi_i3 hql]⟩
      have hpg := WE_data hA hN hS hC hwq o1 o2 o3
      rw [if_neg (show ¬ on (some o) < 0 from fun q => (i3_nl (a := o) (by omega)).mp q)]
      simp (disch := first | assumption | omega) only [l12_0_1, l12_0_4, l12_0_5, l12_0_6, l12_0_9, l12_0_10, l12_0_11, l12_0_13, l12_0_14, l12_0_15, l12_0_16, l12_0_17, l12_0_18, l12_0_19, l12_0_23, l12_0_24, l12_0_25, l12_0_27, n20_83, n20_84, n20_85, n20_86, n20_87, n20_88, n20_89, n20_90, n20_91, n20_92, n20_93, n20_94, n20_95, n20_96, n20_97, n20_98, n21_2, n21_3, n21_4, n21_5, n21_6, n22_20, m_0, m_1, m_87, m_88, m_89, m_90, m_91, m_92, m_93, m_94, m_95, m_96, m_97, m_98, p_0, p_1, p_87, p_88, p_89, p_90, p_91, p_92, p_93, p_94, p_95, p_96, p_97, p_98, gR_mmb, gN_mmb, gL_mmb, i3_add1, i3_add, i3_mul, i3_addl, i3_mull, i3_ladd, i3_lmul, i3_div4, i3_le, i3_lt, i3_eq, i3_lel, i3_lle, i3_ltl, i3_llt, i3_eql, i3_leq, i3_nl, i3_0l, i3_nn, n1_lt, n1_le, xi_i3, xin_i3, xi_lit, xin_lit, xb0, xb1, gd_t, nz4, Option.bind_some, gR_emb, gN_emb, gL_emb, ↓reduceIte, if_true, if_false, not_true_eq_false, not_false_eq_true, eq_self, Nat.not_lt_zero, Nat.zero_le, true_or, or_true, false_or, or_false, true_and, and_true, false_and, and_false, e5, e6]
      refine ih (i + 1) n _ _ (by omega) (by omega) (MI_map (v := i3 q) hY m1) (fun a ha => ?_)
      by_cases ca : a = z0
      · refine ⟨q, if_pos ca, hql, Or.inl ⟨Or.inr ⟨i, by omega, by rw [m2, xi_i3 (by omega)]; exact ca.symm, by rw [m3, xi_i3 hql]⟩, ⟨o, o1, o2, by rw [hpg, ca], o3⟩, by omega⟩⟩
      · obtain ⟨v, v1, v2, v3⟩ := hP a ha
        refine ⟨v, (if_neg ca).trans v1, v2, ?_⟩
        rcases v3 with ⟨w1, w2⟩ | ⟨w1, w2⟩
        · exact Or.inl ⟨hup a v w1, w2⟩
        · refine Or.inr ⟨w1, fun r ⟨q1, q2⟩ => ?_⟩
          rcases hnew a r q1 with w | ⟨ez, -⟩
          · exact w2 r ⟨w, q2⟩
          · exact ca ez
end
