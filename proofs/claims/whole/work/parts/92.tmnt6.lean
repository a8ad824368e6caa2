/-! ===== a mount, both sides ===== -/
def mnt2 (D : xT) (nb nw : Nat) : xT := up (up (mnt1 D nb nw) 14 10 (greatT D (nb * nw))) 15 4 (on (begunT D nb))
section
variable {M : xM} {D E X Y Z T P X' E' E0 E'' X'' : xT} {C : xC} {R N G G' : Nat → Int32} {fu b d L L' s o t k n m i j p q f l w nb nw a at' r g c e : Nat} {x y z v u : Int32} {nt : Bool}
theorem great_cg (h : ∀ k, E 3 k = D 3 k) : ∀ n, greatT E n = greatT D n
  | 0 => rfl
  | n + 1 => by
    show xmaxI (greatT E n) (E 3 n) = xmaxI (greatT D n) (D 3 n)
    rw [great_cg h n, h]
theorem mnt1_lo (h : j ≠ 9) (h1 : j ≠ 11) (h2 : j ≠ 12) (h3 : j < 14 ∨ j = 14 ∧ k ≠ 1 ∧ k ≠ 2 ∧ k ≠ 11 ∨ j = 15 ∨ 19 < j) : mnt1 D nb nw j k = D j k := by
  unfold mnt1
  rw [up_ne (by omega), up_ne (by omega)]
  unfold cpT
  rw [if_neg (by omega), forgetT_lo (by omega), findT_lo (by omega)]
theorem mount_2 : mountT D nb nw = surveyT (mnt2 D nb nw) nb nw := by
  have e1 : greatT (mnt1 D nb nw) (nb * nw) = greatT D (nb * nw) := great_cg (fun k => mnt1_lo (by omega) (by omega) (by omega) (by omega)) _
  have e2 : begunT (up (mnt1 D nb nw) 14 10 (greatT D (nb * nw))) nb = begunT D nb := by
    unfold begunT
    congr 1
    funext k
    rw [up_ne (by omega), up_ne (by omega), mnt1_lo (by omega) (by omega) (by omega) (by omega), mnt1_lo (by omega) (by omega) (by omega) (by omega)]
  show surveyT (up (up (mnt1 D nb nw) 14 10 (greatT (mnt1 D nb nw) (nb * nw))) 15 4 (on (begunT (up (mnt1 D nb nw) 14 10 (greatT (mnt1 D nb nw) (nb * nw))) nb))) nb nw = _
  rw [e1, e2]
  rfl
theorem mnt1_9 (h : k < 20) : mnt1 D nb nw 9 k = findT D (nb * nw) 16 k := by
  unfold mnt1
  rw [up_ne (by omega), up_ne (by omega)]
  unfold cpT
  rw [if_pos ⟨rfl, Nat.zero_le _, by omega⟩, forgetT_lo (by omega), Nat.zero_add, Nat.sub_zero]
theorem mnt1_9o (h : 20 ≤ k) : mnt1 D nb nw 9 k = D 9 k := by
  unfold mnt1
  rw [up_ne (by omega), up_ne (by omega)]
  unfold cpT
  rw [if_neg (by omega)]
  unfold forgetT
  rw [if_neg (by omega), if_neg (by omega), if_neg (by omega), findT_lo (by omega)]
theorem mnt1_11 (hj : j = 11 ∨ j = 12) : mnt1 D nb nw j k = if k < 5 then 0 else D j k := by
  unfold mnt1
  rw [up_ne (by omega), up_ne (by omega)]
  unfold cpT
  rw [if_neg (by omega)]
  unfold forgetT
  rw [if_neg (by omega)]
  by_cases c : k < 5
  · rw [if_pos ⟨hj, c⟩, if_pos c]
  · rw [if_neg (by omega), if_neg (by omega), findT_lo (by omega), if_neg c]
theorem mnt2_is (hG : ∀ k, k < 20 → G k = findT D (nb * nw) 16 k) (hj : j < 16) (h11 : j ≠ 14 ∨ k ≠ 11) : mnt2 D nb nw j k = mnT D G (greatT D (nb * nw)) (on (begunT D nb)) j k := by
  unfold mnt2 mnT
  by_cases c9 : j = 9
  · subst c9
    rw [up_ne (by omega), up_ne (by omega)]
    by_cases c : k < 20
    · rw [if_pos ⟨rfl, c⟩, mnt1_9 c, hG k c]
    · rw [mnt1_9o (by omega), if_neg (by omega), if_neg (by omega), if_neg (by omega), if_neg (by omega), if_neg (by omega), if_neg (by omega)]
  · by_cases c11 : j = 11 ∨ j = 12
    · rw [up_ne (by omega), up_ne (by omega), mnt1_11 c11, if_neg (show ¬ (j = 9 ∧ k < 20) by omega)]
      by_cases c : k < 5
      · rw [if_pos c, if_pos ⟨c11, c⟩]
      · rw [if_neg c, if_neg (by omega), if_neg (by omega), if_neg (by omega), if_neg (by omega), if_neg (by omega)]
    · rw [if_neg (by omega), if_neg (by omega)]
      by_cases c1 : j = 14 ∧ k = 1
      · rw [if_pos c1, c1.1, c1.2, up_ne (by omega), up_ne (by omega)]
        unfold mnt1
        rw [up_ne (by omega), up_eq]
      · rw [if_neg c1]
        by_cases c2 : j = 14 ∧ k = 2
        · rw [if_pos c2, c2.1, c2.2, up_ne (by omega), up_ne (by omega)]
          unfold mnt1
          exact up_eq
        · rw [if_neg c2]
          by_cases c3 : j = 14 ∧ k = 10
          · rw [if_pos c3, c3.1, c3.2, up_ne (by omega), up_eq]
          · rw [if_neg c3]
            by_cases c4 : j = 15 ∧ k = 4
            · rw [if_pos c4, c4.1, c4.2, up_eq]
            · rw [if_neg c4, up_ne (by omega), up_ne (by omega), mnt1_lo (by omega) (by omega) (by omega) (by omega)]
theorem mnt2_11 : mnt2 D nb nw 14 11 = 0 := by
  unfold mnt2 mnt1
  rw [up_ne (by omega), up_ne (by omega), up_ne (by omega), up_ne (by omega)]
  unfold cpT
  rw [if_neg (by omega)]
  unfold forgetT
  rw [if_neg (by omega), if_neg (by omega), if_pos ⟨rfl, rfl⟩]
theorem mnt2_24 : mnt2 D nb nw 24 k = D 24 k := by
  unfold mnt2
  rw [up_ne (by omega), up_ne (by omega), mnt1_lo (by omega) (by omega) (by omega) (by omega)]
theorem MapIs_up (h : MapIs C D m a r) (hl : m ≤ l) (hm : ∀ o, o < tot C → isN D o → sq D o ≤ m) : MapIs C D l a r := by
  have h1 : ∀ n, m < n → ¬ DAl D (tot C) a n := fun n hn ⟨t, t1, t2, t3, t4⟩ => by have := hm t t1 (Or.inl t2); omega
  have h2 : ∀ n, m < n → ¬ GOl D (tot C) (a / 4) n := fun n hn ⟨t, t1, t2, t3, t4⟩ => by have := hm t t1 (Or.inr (Or.inl t2)); omega
  rcases h with ⟨a1, a2, a3, a4⟩ | ⟨a1, g, a2, a3, a4, a5⟩ | ⟨a1, a2⟩
  · refine Or.inl ⟨a1, by omega, a3, fun n m1 m2 => ?_⟩
    rcases Nat.lt_or_ge m n with cc | cc
    · exact ⟨h1 n cc, h2 n cc⟩
    · exact a4 n m1 cc
  · refine Or.inr (Or.inl ⟨a1, g, a2, by omega, a4, fun n m1 m2 => ?_⟩)
    rcases Nat.lt_or_ge m n with cc | cc
    · exact h1 n cc
    · exact a5 n m1 cc
  · refine Or.inr (Or.inr ⟨fun n m1 m2 => ?_, a2⟩)
    rcases Nat.lt_or_ge m n with cc | cc
    · exact ⟨h1 n cc, h2 n cc⟩
    · exact a1 n m1 cc
/-- where the greatest number stands -/
theorem great_fix (hI : Inv C L D) : ∃ m, greatT D (tot C) = i3 m ∧ m ≤ lsN D ∧ bsN D ≤ m ∧ (∀ o, o < tot C → isN D o → sq D o ≤ m) := by
  obtain ⟨hO, hA, hN, hS, hM, hC, hOo, hIB⟩ := hI
  obtain ⟨m, h1, h2, h3, h4⟩ := great_is hN (tot C) (Nat.le_refl _)
  refine ⟨m, h1, ?_, ?_, h3⟩
  · rcases h4 with q | ⟨o, o1, o2, o3⟩
    · omega
    · have := (node_seq (hN o o1) o2).2.2; omega
  · obtain ⟨a1, a2, a3, a4, a5, a6, a7, a8, a9⟩ := hA
    rcases Nat.eq_zero_or_pos (wpN D) with q | q
    · have := a9 q; omega
    · obtain ⟨s, s1, s2, s3, -⟩ := hC.1 (wpN D - 1) (by omega)
      have := h3 s s1 (Or.inr (Or.inr s2))
      omega
theorem MI_head (h : MI C b D X G x y Y) : MI C b D X G x v (up Y 95 (b + 1) v) := by
  obtain ⟨h1, h2, h3⟩ := h
  refine ⟨Rel_mn h1 (fun k hk => up_ne (by omega)) ?_ up_eq (fun k hk => ?_), fun j k hj => by rw [up_ne (by omega)]; exact h2 j k hj, fun k hk => by rw [up_ne (by omega)]; exact h3 k hk⟩
  · rw [up_ne (by omega)]; exact h1.1.trans mn_1410
  · rw [up_ne (by omega)]; exact (h1.2.2.2.2.2.2.2.2.1 k hk).trans (mn_9 hk)
theorem MI_last (h : MI C b D X G x y Y) : MI C b D X G v y (up Y 95 b v) := by
  obtain ⟨h1, h2, h3⟩ := h
  refine ⟨Rel_mn h1 (fun k hk => up_ne (by omega)) up_eq ?_ (fun k hk => ?_), fun j k hj => by rw [up_ne (by omega)]; exact h2 j k hj, fun k hk => ?_⟩
  · rw [up_ne (by omega)]; exact h1.2.1.trans mn_144
  · rw [up_ne (by omega)]; exact (h1.2.2.2.2.2.2.2.2.1 k hk).trans (mn_9 hk)
  · rw [up_ne (by omega)]; exact h3 k hk
theorem t_mnt419 (h : Lay M) (hM : MCfg C X) (hb : b ≤ 2140) (hB : CB C) (hf : 100 < fu) : ∀ r n y Y, r ≤ C 0 0 → r < n → MI C b D X G x y Y →
    ∃ Y', L_X12_mounts_419 fu n 0 (i3 b) z (i3 r + (-1)) (mmb Y M) = some (z, mmb Y' M) ∧ MI C b D X G x (match lst (fun k => decide (0 < eraN D (C 0 1) k (C 0 1)) && decide (eraN D (C 0 1) k (C 0 1) < C 0 1)) r with | some k => i3 k | none => y) Y'
  | 0, n, y, Y, hr, hn, hY => by
    obtain ⟨n, rfl⟩ : ∃ k, n = k + 1 := ⟨n - 1, by omega⟩
    refine ⟨Y, ?_, hY⟩
    unfold L_X12_mounts_419
    rw [if_pos (by decide)]
  | r + 1, n, y, Y, hr, hn, hY => by
    have h6 := hB.1
    have h61 := hB.2.1
    obtain ⟨n, rfl⟩ : ∃ k, n = k + 1 := ⟨n - 1, by omega⟩
    have he : F_X12_erasedIn fu 0 (i3 b) (i3 r) (mmb Y M) = some (i3 (eraN D (C 0 1) r (C 0 1)), mmb Y M) := by
      have := t_erasedIn (fu := fu) (M := M) h (MI_cfg hY hM) hb hB hY.1 hf (show r < C 0 0 by omega)
      have e2 : eraN (mnT D G x y) (C 0 1) r (C 0 1) = eraN D (C 0 1) r (C 0 1) := by unfold eraN; exact cnt_congr (fun i hi => by rw [mn_n (by omega)])
      rw [e2] at this
      exact this
    have hel : eraN D (C 0 1) r (C 0 1) ≤ C 0 1 := cnt_le _ _
    have hst : up Y 95 (b + 1) (Y 95 (b + 1)) = Y := up_id rfl
    conv => enter [1, Y', 1, 1]; unfold L_X12_mounts_419
    rw [dec_i3, if_neg (fun q => (i3_nl (a := r) (by omega)).mp q), he]
    simp only [Option.bind_some]
    unfold lst
    by_cases c1 : eraN D (C 0 1) r (C 0 1) = 0
    · rw [if_pos (by rw [c1]; decide)]
      simp (disch := first | assumption | omega) only [l12_0_1, l12_0_4, l12_0_5, l12_0_6, l12_0_9, l12_0_10, l12_0_11, l12_0_13, l12_0_14, l12_0_15, l12_0_16, l12_0_17, l12_0_18, l12_0_19, l12_0_23, l12_0_24, l12_0_25, l12_0_27, n20_83, n20_84, n20_85, n20_86, n20_87, n20_88, n20_89, n20_90, n20_91, n20_92, n20_93, n20_94, n20_95, n20_96, n20_97, n20_98, n21_2, n21_3, n21_4, n21_5, n21_6, n22_20, m_0, m_1, m_87, m_88, m_89, m_90, m_91, m_92, m_93, m_94, m_95, m_96, m_97, m_98, p_0, p_1, p_87, p_88, p_89, p_90, p_91, p_92, p_93, p_94, p_95, p_96, p_97, p_98, gR_mmb, gN_mmb, gL_mmb, i3_add1, i3_add, i3_mul, i3_addl, i3_mull, i3_ladd, i3_lmul, i3_div4, i3_le, i3_lt, i3_eq, i3_lel, i3_lle, i3_ltl, i3_llt, i3_eql, i3_leq, i3_nl, i3_0l, i3_nn, n1_lt, n1_le, xi_i3, xin_i3, xi_lit, xin_lit, xb0, xb1, gd_t, nz4, Option.bind_some, gR_emb, gN_emb, gL_emb, ↓reduceIte, if_true, if_false, not_true_eq_false, not_false_eq_true, eq_self, Nat.not_lt_zero, Nat.zero_le, true_or, or_true, false_or, or_false, true_and, and_true, false_and, and_false, hst]
      obtain ⟨Y', k1, k2⟩ := t_mnt419 h hM hb hB hf r n y Y (by omega) (by omega) hY
      refine ⟨Y', k1, ?_⟩
      have e : (decide (0 < eraN D (C 0 1) r (C 0 1)) && decide (eraN D (C 0 1) r (C 0 1) < C 0 1)) = false := by rw [decide_eq_false (by omega)]; rfl
      cases hl : lst (fun k => decide (0 < eraN D (C 0 1) k (C 0 1)) && decide (eraN D (C 0 1) k (C 0 1) < C 0 1)) r with
      | some k => rw [hl] at k2; exact k2
      | none => rw [hl] at k2; simp only [e, Bool.false_eq_true, if_false]; exact k2
    · rw [if_neg (fun q => by have := (i3_le (b := 0) (by omega) (by omega)).mp q; omega), he]
      simp only [Option.bind_some]
      rw [t_wide h (MI_cfg hY hM)]
      simp only [Option.bind_some]
      by_cases c2 : eraN D (C 0 1) r (C 0 1) = C 0 1
      · rw [if_pos (by rw [c2]; exact Int32.le_refl _)]
        simp (disch := first | assumption | omega) only [l12_0_1, l12_0_4, l12_0_5, l12_0_6, l12_0_9, l12_0_10, l12_0_11, l12_0_13, l12_0_14, l12_0_15, l12_0_16, l12_0_17, l12_0_18, l12_0_19, l12_0_23, l12_0_24, l12_0_25, l12_0_27, n20_83, n20_84, n20_85, n20_86, n20_87, n20_88, n20_89, n20_90, n20_91, n20_92, n20_93, n20_94, n20_95, n20_96, n20_97, n20_98, n21_2, n21_3, n21_4, n21_5, n21_6, n22_20, m_0, m_1, m_87, m_88, m_89, m_90, m_91, m_92, m_93, m_94, m_95, m_96, m_97, m_98, p_0, p_1, p_87, p_88, p_89, p_90, p_91, p_92, p_93, p_94, p_95, p_96, p_97, p_98, gR_mmb, gN_mmb, gL_mmb, i3_add1, i3_add, i3_mul, i3_addl, i3_mull, i3_ladd, i3_lmul, i3_div4, i3_le, i3_lt, i3_eq, i3_lel, i3_lle, i3_ltl, i3_llt, i3_eql, i3_leq, i3_nl, i3_0l, i3_nn, n1_lt, n1_le, xi_i3, xin_i3, xi_lit, xin_lit, xb0, xb1, gd_t, nz4, Option.bind_some, gR_emb, gN_emb, gL_emb, ↓reduceIte, if_true, if_false, not_true_eq_false, not_false_eq_true, eq_self, Nat.not_lt_zero, Nat.zero_le, true_or, or_true, false_or, or_false, true_and, and_true, false_and, and_false, hst]
        obtain ⟨Y', k1, k2⟩ := t_mnt419 h hM hb hB hf r n y Y (by omega) (by omega) hY
        refine ⟨Y', k1, ?_⟩
        have e : (decide (0 < eraN D (C 0 1) r (C 0 1)) && decide (eraN D (C 0 1) r (C 0 1) < C 0 1)) = false := by rw [decide_eq_false (show ¬ eraN D (C 0 1) r (C 0 1) < C 0 1 by omega), Bool.and_false]
        cases hl : lst (fun k => decide (0 < eraN D (C 0 1) k (C 0 1)) && decide (eraN D (C 0 1) k (C 0 1) < C 0 1)) r with
        | some k => rw [hl] at k2; exact k2
        | none => rw [hl] at k2; simp only [e, Bool.false_eq_true, if_false]; exact k2
      · rw [if_neg (fun q => by have := (i3_le (by omega) (by omega)).mp q; omega)]
        simp (disch := first | assumption | omega) only [l12_0_1, l12_0_4, l12_0_5, l12_0_6, l12_0_9, l12_0_10, l12_0_11, l12_0_13, l12_0_14, l12_0_15, l12_0_16, l12_0_17, l12_0_18, l12_0_19, l12_0_23, l12_0_24, l12_0_25, l12_0_27, n20_83, n20_84, n20_85, n20_86, n20_87, n20_88, n20_89, n20_90, n20_91, n20_92, n20_93, n20_94, n20_95, n20_96, n20_97, n20_98, n21_2, n21_3, n21_4, n21_5, n21_6, n22_20, m_0, m_1, m_87, m_88, m_89, m_90, m_91, m_92, m_93, m_94, m_95, m_96, m_97, m_98, p_0, p_1, p_87, p_88, p_89, p_90, p_91, p_92, p_93, p_94, p_95, p_96, p_97, p_98, gR_mmb, gN_mmb, gL_mmb, i3_add1, i3_add, i3_mul, i3_addl, i3_mull, i3_ladd, i3_lmul, i3_div4, i3_le, i3_lt, i3_eq, i3_lel, i3_lle, i3_ltl, i3_llt, i3_eql, i3_leq, i3_nl, i3_0l, i3_nn, n1_lt, n1_le, xi_i3, xin_i3, xi_lit, xin_lit, xb0, xb1, gd_t, nz4, Option.bind_some, gR_emb, gN_emb, gL_emb, ↓reduceIte, if_true, if_false, not_true_eq_false, not_false_eq_true, eq_self, Nat.not_lt_zero, Nat.zero_le, true_or, or_true, false_or, or_false, true_and, and_true, false_and, and_false]
        obtain ⟨Y', k1, k2⟩ := t_mnt419 h hM hb hB hf r n (i3 r) _ (by omega) (by omega) (MI_head (v := i3 r) hY)
        refine ⟨Y', k1, ?_⟩
        have e : (decide (0 < eraN D (C 0 1) r (C 0 1)) && decide (eraN D (C 0 1) r (C 0 1) < C 0 1)) = true := by rw [decide_eq_true (show 0 < eraN D (C 0 1) r (C 0 1) by omega), decide_eq_true (show eraN D (C 0 1) r (C 0 1) < C 0 1 by omega)]; rfl
        cases hl : lst (fun k => decide (0 < eraN D (C 0 1) k (C 0 1)) && decide (eraN D (C 0 1) k (C 0 1) < C 0 1)) r with
        | some k => rw [hl] at k2; exact k2
        | none => rw [hl] at k2; simp only [e, if_true]; exact k2
end
