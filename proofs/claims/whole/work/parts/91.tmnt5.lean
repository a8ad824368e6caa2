/-! ===== a mount, in the reference, whole ===== -/
section
variable {M : xM} {D E X Y Z T P X' E' E0 E'' X'' : xT} {C : xC} {R N G G' : Nat → Int32} {fu b d L L' s o t k n m i j p q f l w nb nw a at' r g c e : Nat} {x y z v u : Int32} {nt : Bool} {K : Nat → Int32 → Int32 → Int32 → Int32 → xM → Option (Int32 × xM)} {W W' : Nat → Nat → Prop}
/-- a number of the journal -/
theorem t_mnt313 (h : Lay M) (hM : MCfg C X) (hb : b ≤ 2140) (hB : CB C) (hA : InA L D) (hN : InN C D) (hS : InS C D) (hf : 100 < fu) (hY : MI C b D X G x y Y) (hP : NA C D G n) (hbn : bsN D ≤ n) (hn : n + 1 < 2147483648) {o1 o2 : Option Nat}
    (h1 : lst (fun s => decide (D 2 s = 1) && decide (D 3 s = i3 (n + 1))) (tot C) = o1) (h2 : lst (fun s => decide (D 2 s = 2) && decide (D 3 s = i3 (n + 1))) (tot C) = o2) :
    ∃ G' Y', J_X12_mounts_313 fu K 0 (i3 b) z (i3 (n + 1)) (on o1) (on o2) (if o1 = none ∧ o2 = none then 0 else 1) (i3 k) (mmb Y M) = K 0 (i3 b) z (i3 (k + (jn C D (n + 1) - jn C D n))) (i3 (n + 2)) (mmb Y' M) ∧ MI C b D X G' x y Y' ∧ NA C D G' (n + 1) := by
  have h36 := tot36 hB
  have c5 := hB.2.2.2.1
  have hj := jn_s (C := C) (D := D) (n := n)
  unfold J_X12_mounts_313
  cases o1 with
  | some o =>
    obtain ⟨g1, g2, g3⟩ := dat_some hN (Or.inl rfl) hn h1
    obtain ⟨f, p, d1, d2, d3, d4, d5, d6, d7, d8⟩ := data_pg hN hB g1 g2
    have hne := (MI_n hY g1).2.1 (by rw [g2]; decide)
    have hl := (lst_some.mp h1).2.2
    have e1 : cnt (fun s => jourB D s && decide (sq D s = n + 1)) (tot C) = 1 := jn_one hA hN hS (by omega) g1 (Or.inl g2) g3 (fun t t1 t2 t3 t4 => by
      have := hl t t1
      rw [g2] at t3
      have := (node_seq (hN t t2) (Or.inl t3)).1
      rw [t4] at this
      simp_all)
    rw [e1] at hj
    have r2 := hne.2.1
    have r3 := hne.2.2.1
    rw [d3] at r2
    rw [d4] at r3
    have ei : i3 k + (if some o = none ∧ o2 = none then (0 : Int32) else 1) = i3 (k + (jn C D (n + 1) - jn C D n)) := by
      rw [if_neg (fun q => by cases q.1), i3_add1, show k + 1 = k + (jn C D (n + 1) - jn C D n) by omega]
    refine ⟨_, _, ?_, MI_map (a := pgT D o) (v := i3 (n + 1)) hY d7, NA_data hN hS hB hP hbn hn g1 g2 g3⟩
    rw [if_neg (show ¬ on (some o) < 0 from fun q => (i3_nl (a := o) (by omega)).mp q)]
    show (F_X12_slotAt fu (i3 b) (i3 o) (mmb Y M)).bind _ = _
    simp only [ei, show on (some o) = i3 o from rfl, t_slotAt, Option.bind_some]
    simp (disch := first | assumption | omega) only [l12_0_1, l12_0_4, l12_0_5, l12_0_6, l12_0_9, l12_0_10, l12_0_11, l12_0_13, l12_0_14, l12_0_15, l12_0_16, l12_0_17, l12_0_18, l12_0_19, l12_0_23, l12_0_24, l12_0_25, l12_0_27, n20_83, n20_84, n20_85, n20_86, n20_87, n20_88, n20_89, n20_90, n20_91, n20_92, n20_93, n20_94, n20_95, n20_96, n20_97, n20_98, n21_2, n21_3, n21_4, n21_5, n21_6, n22_20, m_0, m_1, m_87, m_88, m_89, m_90, m_91, m_92, m_93, m_94, m_95, m_96, m_97, m_98, p_0, p_1, p_87, p_88, p_89, p_90, p_91, p_92, p_93, p_94, p_95, p_96, p_97, p_98, gR_mmb, gN_mmb, gL_mmb, i3_add1, i3_add, i3_mul, i3_addl, i3_mull, i3_ladd, i3_lmul, i3_div4, i3_le, i3_lt, i3_eq, i3_lel, i3_lle, i3_ltl, i3_llt, i3_eql, i3_leq, i3_nl, i3_0l, i3_nn, n1_lt, n1_le, xi_i3, xin_i3, xi_lit, xin_lit, xb0, xb1, gd_t, nz4, Option.bind_some, gR_emb, gN_emb, gL_emb, ↓reduceIte, if_true, if_false, not_true_eq_false, not_false_eq_true, eq_self, Nat.not_lt_zero, Nat.zero_le, true_or, or_true, false_or, or_false, true_and, and_true, false_and, and_false, r2, r3]
    rw [d5, show b + 14 + 4 * f + p = b + 14 + (f * 4 + p) by omega, show n + 1 + 1 = n + 2 from rfl]
  | none =>
    have hno := dat_none hN (Or.inl rfl) h1
    cases o2 with
    | some o =>
      obtain ⟨g1, g2, g3⟩ := dat_some hN (Or.inr rfl) hn h2
      obtain ⟨f, d1, d2⟩ := gone_f hN g1 g2
      have hne := (MI_n hY g1).2.1 (by rw [g2]; decide)
      have hl := (lst_some.mp h2).2.2
      have e1 : cnt (fun s => jourB D s && decide (sq D s = n + 1)) (tot C) = 1 := jn_one hA hN hS (by omega) g1 (Or.inr g2) g3 (fun t t1 t2 t3 t4 => by
        have := hl t t1
        rw [g2] at t3
        have := (node_seq (hN t t2) (Or.inr (Or.inl t3))).1
        rw [t4] at this
        simp_all)
      rw [e1] at hj
      have r2 := hne.2.1
      rw [d2] at r2
      have ei : i3 k + (if (none : Option Nat) = none ∧ some o = none then (0 : Int32) else 1) = i3 (k + (jn C D (n + 1) - jn C D n)) := by
        rw [if_neg (fun q => by cases q.2), i3_add1, show k + 1 = k + (jn C D (n + 1) - jn C D n) by omega]
      refine ⟨_, _, ?_, MI_unm (f := f) hY (by omega), NA_gone hN hS hB hP hbn g1 g2 d2 (by omega) g3⟩
      rw [ei, if_pos (show on none < 0 from by decide), if_neg (show ¬ on (some o) < 0 from fun q => (i3_nl (a := o) (by omega)).mp q)]
      show (F_X12_slotAt fu (i3 b) (i3 o) (mmb Y M)).bind _ = _
      simp only [show on (some o) = i3 o from rfl, t_slotAt, Option.bind_some]
      simp (disch := first | assumption | omega) only [l12_0_1, l12_0_4, l12_0_5, l12_0_6, l12_0_9, l12_0_10, l12_0_11, l12_0_13, l12_0_14, l12_0_15, l12_0_16, l12_0_17, l12_0_18, l12_0_19, l12_0_23, l12_0_24, l12_0_25, l12_0_27, n20_83, n20_84, n20_85, n20_86, n20_87, n20_88, n20_89, n20_90, n20_91, n20_92, n20_93, n20_94, n20_95, n20_96, n20_97, n20_98, n21_2, n21_3, n21_4, n21_5, n21_6, n22_20, m_0, m_1, m_87, m_88, m_89, m_90, m_91, m_92, m_93, m_94, m_95, m_96, m_97, m_98, p_0, p_1, p_87, p_88, p_89, p_90, p_91, p_92, p_93, p_94, p_95, p_96, p_97, p_98, gR_mmb, gN_mmb, gL_mmb, i3_add1, i3_add, i3_mul, i3_addl, i3_mull, i3_ladd, i3_lmul, i3_div4, i3_le, i3_lt, i3_eq, i3_lel, i3_lle, i3_ltl, i3_llt, i3_eql, i3_leq, i3_nl, i3_0l, i3_nn, n1_lt, n1_le, xi_i3, xin_i3, xi_lit, xin_lit, xb0, xb1, gd_t, nz4, Option.bind_some, gR_emb, gN_emb, gL_emb, ↓reduceIte, if_true, if_false, not_true_eq_false, not_false_eq_true, eq_self, Nat.not_lt_zero, Nat.zero_le, true_or, or_true, false_or, or_false, true_and, and_true, false_and, and_false, r2]
      rw [t_unmaps h hb (by omega) hf]
      simp only [Option.bind_some]
    | none =>
      have hno2 := dat_none hN (Or.inr rfl) h2
      have e1 := jn_none hA hN hno hno2
      rw [e1] at hj
      have ei : i3 k + (if (none : Option Nat) = none ∧ (none : Option Nat) = none then (0 : Int32) else 1) = i3 (k + (jn C D (n + 1) - jn C D n)) := by
        rw [if_pos ⟨rfl, rfl⟩, show jn C D (n + 1) - jn C D n = 0 by omega]
        exact Int32.add_zero _
      refine ⟨G, Y, ?_, hY, NA_skip hP hno hno2⟩
      rw [ei, if_pos (show on none < 0 from by decide), if_pos (show on none < 0 from by decide), i3_add1]
theorem t_mnt271 (h : Lay M) (hM : MCfg C X) (hb : b ≤ 2140) (hB : CB C) (hA : InA L D) (hN : InN C D) (hS : InS C D) (hf : 100 < fu) (hm : m < 2000000000) :
    ∀ w n l G Y, n + w = m → w < l → bsN D ≤ n → MI C b D X G x y Y → NA C D G n → ∃ G' Y', L_X12_mounts_271 fu l 0 (i3 b) (i3 m) (i3 (jn C D n)) (i3 (n + 1)) (mmb Y M) = L_X12_mounts_271 fu (l - w) 0 (i3 b) (i3 m) (i3 (jn C D m)) (i3 (m + 1)) (mmb Y' M) ∧ MI C b D X G' x y Y' ∧ NA C D G' m := by
  intro w
  induction w with
  | zero =>
    intro n l G Y e hl hb2 hY hP
    have : n = m := by omega
    subst this
    exact ⟨G, Y, rfl, hY, hP⟩
  | succ w ih =>
    intro n l G Y e hl hb2 hY hP
    obtain ⟨l, rfl⟩ : ∃ k, l = k + 1 := ⟨l - 1, by omega⟩
    obtain ⟨G1, Y1, r1, r2, r3⟩ := t_mnt313 (K := L_X12_mounts_271 fu l) (z := i3 m) (k := jn C D n) (fu := fu) (M := M) h hM hb hB hA hN hS hf hY hP hb2 (by omega) rfl rfl
    have hjl : jn C D n ≤ jn C D (n + 1) := by have := jn_s (C := C) (D := D) (n := n); omega
    rw [show jn C D n + (jn C D (n + 1) - jn C D n) = jn C D (n + 1) by omega] at r1
    obtain ⟨G2, Y2, s1, s2, s3⟩ := ih (n + 1) l G1 Y1 (by omega) (by omega) (by omega) r2 r3
    refine ⟨G2, Y2, ?_, s2, s3⟩
    rw [show l + 1 - (w + 1) = l - w by omega, ← s1, show n + 1 + 1 = n + 2 from rfl, ← r1]
    conv => lhs; unfold L_X12_mounts_271
    rw [if_neg (fun q => by have := (i3_lt (by omega) (by omega)).mp q; omega), MI_slot h hM hb hB hY (by decide) hf]
    simp only [Option.bind_some]
    rw [MI_slot h hM hb hB hY (by decide) hf]
    simp only [Option.bind_some]
    have h36 := tot36 hB
    cases hl1 : lst (fun s => decide (D 2 s = 1) && decide (D 3 s = i3 (n + 1))) (tot C) with
    | some o =>
      have ho := (lst_some.mp hl1).1
      rw [if_pos (show 0 ≤ on (some o) from (i3_le (a := 0) (by omega) (by omega)).mpr (Nat.zero_le _)), if_neg (fun q => by cases q.1)]
    | none =>
      rw [if_neg (show ¬ 0 ≤ on none from by decide)]
      cases hl2 : lst (fun s => decide (D 2 s = 2) && decide (D 3 s = i3 (n + 1))) (tot C) with
      | none => rw [if_pos (show on none < 0 from by decide), if_pos ⟨rfl, rfl⟩]
      | some o =>
        have ho := (lst_some.mp hl2).1
        rw [if_neg (show ¬ on (some o) < 0 from fun q => (i3_nl (a := o) (by omega)).mp q), if_neg (fun q => by cases q.2)]
end
