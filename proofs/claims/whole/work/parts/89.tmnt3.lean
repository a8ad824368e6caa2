/-! ===== a mount, in the reference: the parts, the greatest number ===== -/
section
variable {M : xM} {D E X Y Z T P X' E' E0 E'' X'' : xT} {C : xC} {R N G G' : Nat → Int32} {fu b d L L' s o t k n m i j p q f l w nb nw a at' r g c : Nat} {x y z v u : Int32} {nt : Bool} {K : Nat → Int32 → Int32 → xM → Option (Int32 × xM)} {W W' : Nat → Nat → Prop}
theorem PA_cg (h : ∀ a q, W a q ↔ W' a q) (hP : PA C D G W) : PA C D G W' := by
  intro a ha
  obtain ⟨v, v1, v2, v3⟩ := hP a ha
  refine ⟨v, v1, v2, ?_⟩
  rcases v3 with ⟨w1, w2⟩ | ⟨w1, w2⟩
  · exact Or.inl ⟨(h a v).mp w1, w2⟩
  · exact Or.inr ⟨w1, fun q ⟨q1, q2⟩ => w2 q ⟨(h a q).mpr q1, q2⟩⟩
theorem t_mnt21 (h : Lay M) (hM : MCfg C X) (hb : b ≤ 2140) (hB : CB C) (hA : InA L D) (hN : InN C D) (hS : InS C D) (hC : InC C D) (hf : 100 < fu) :
    ∀ m s n G Y, s + m = tot C → m < n → MI C b D X G x y Y → PA C D G (WEl D s) → ∃ G' Y', L_X12_mounts_21 fu n 0 (i3 b) (i3 s) (mmb Y M) = L_X12_mounts_195 fu fu 0 (i3 b) 0 0 (mmb Y' M) ∧ MI C b D X G' x y Y' ∧ PA C D G' (WEl D (tot C)) := by
  have h36 := tot36 hB
  intro m
  induction m with
  | zero =>
    intro s n G Y hi hn hY hP
    obtain ⟨n, rfl⟩ : ∃ k, n = k + 1 := ⟨n - 1, by omega⟩
    have e : s = tot C := by omega
    subst e
    refine ⟨G, Y, ?_, hY, hP⟩
    conv => lhs; unfold L_X12_mounts_21
    rw [t_all h (MI_cfg hY hM)]
    simp only [Option.bind_some]
    rw [if_pos (Int32.le_refl _)]
  | succ m ih =>
    intro s n G Y hi hn hY hP
    obtain ⟨n, rfl⟩ : ∃ k, n = k + 1 := ⟨n - 1, by omega⟩
    have hs : s < tot C := by omega
    have hn0 := MI_n hY hs
    have hlk := MI_lk hY
    conv => enter [1, G', 1, Y', 1, 1]; unfold L_X12_mounts_21
    rw [t_all h (MI_cfg hY hM)]
    simp only [Option.bind_some]
    rw [if_neg (fun q => by have := (i3_le (by omega) (by omega)).mp q; omega), t_slotAt]
    simp only [Option.bind_some]
    simp (disch := first | assumption | omega) only [l12_0_1, l12_0_4, l12_0_5, l12_0_6, l12_0_9, l12_0_10, l12_0_11, l12_0_13, l12_0_14, l12_0_15, l12_0_16, l12_0_17, l12_0_18, l12_0_19, l12_0_23, l12_0_24, l12_0_25, l12_0_27, n20_83, n20_84, n20_85, n20_86, n20_87, n20_88, n20_89, n20_90, n20_91, n20_92, n20_93, n20_94, n20_95, n20_96, n20_97, n20_98, n21_2, n21_3, n21_4, n21_5, n21_6, n22_20, m_0, m_1, m_87, m_88, m_89, m_90, m_91, m_92, m_93, m_94, m_95, m_96, m_97, m_98, p_0, p_1, p_87, p_88, p_89, p_90, p_91, p_92, p_93, p_94, p_95, p_96, p_97, p_98, gR_mmb, gN_mmb, gL_mmb, i3_add1, i3_add, i3_mul, i3_addl, i3_mull, i3_ladd, i3_lmul, i3_div4, i3_le, i3_lt, i3_eq, i3_lel, i3_lle, i3_ltl, i3_llt, i3_eql, i3_leq, i3_nl, i3_0l, i3_nn, n1_lt, n1_le, xi_i3, xin_i3, xi_lit, xin_lit, xb0, xb1, gd_t, nz4, Option.bind_some, gR_emb, gN_emb, gL_emb, ↓reduceIte, if_true, if_false, not_true_eq_false, not_false_eq_true, eq_self, Nat.not_lt_zero, Nat.zero_le, true_or, or_true, false_or, or_false, true_and, and_true, false_and, and_false, hn0.1]
    have skip : isWholeT D s = false → ∃ G' Y', L_X12_mounts_101 fu (L_X12_mounts_21 fu n) fu 0 (i3 b) (i3 s) (i3 (b + 34 + 13 * s)) 0 0 (mmb Y M) = L_X12_mounts_195 fu fu 0 (i3 b) 0 0 (mmb Y' M) ∧ MI C b D X G' x y Y' ∧ PA C D G' (WEl D (tot C)) := by
      intro hw
      obtain ⟨fu', rfl⟩ : ∃ k, fu = k + 1 := ⟨fu - 1, by omega⟩
      conv => enter [1, G', 1, Y', 1, 1]; unfold L_X12_mounts_101
      rw [if_pos rfl, i3_add1]
      refine ih (s + 1) n G Y (by omega) (by omega) hY (PA_cg (fun a q => ?_) hP)
      constructor
      · rintro ⟨o, i, o1, o2⟩; exact ⟨o, i, by omega, o2⟩
      · rintro ⟨o, i, o1, o2, o3⟩
        rcases Nat.lt_or_ge o s with cc | cc
        · exact ⟨o, i, cc, o2, o3⟩
        · have : o = s := by omega
          rw [this, hw] at o2
          exact absurd o2 (by decide)
    by_cases hk : D 2 s = 3
    · have hnode := hn0.2.1 (by rw [hk]; decide)
      obtain ⟨n1, n2, n3, p, n', c, n4, n5, n6, n7, n8, n9, n10, n11⟩ := idx_node hN hs hk
      have hw := whole_iff hA hN hS hC hs hk
      rw [if_neg (fun q => q hk)]
      have hsl : sq D s < 2147483648 := xi_lt _
      have hfl : fsN D < 2147483648 := by
        obtain ⟨a1, a2, a3, a4, a5, a6, a7, a8, a9⟩ := hA
        unfold fsN; split <;> omega
      by_cases c0 : fsN D = 0
      · rw [if_pos (by rw [hlk.1, c0]; decide)]
        refine skip ?_
        rw [hw, decide_eq_false]
        intro q
        have q1 := q.1
        rw [n1, n8, i3_sub (by omega), c0] at q1
        have := (i3_eq (by omega) (by omega)).mp q1
        omega
      · rw [if_neg (by rw [hlk.1]; exact fun q => by have := (i3_le (b := 0) hfl (by omega)).mp q; omega)]
        simp (disch := first | assumption | omega) only [l12_0_1, l12_0_4, l12_0_5, l12_0_6, l12_0_9, l12_0_10, l12_0_11, l12_0_13, l12_0_14, l12_0_15, l12_0_16, l12_0_17, l12_0_18, l12_0_19, l12_0_23, l12_0_24, l12_0_25, l12_0_27, n20_83, n20_84, n20_85, n20_86, n20_87, n20_88, n20_89, n20_90, n20_91, n20_92, n20_93, n20_94, n20_95, n20_96, n20_97, n20_98, n21_2, n21_3, n21_4, n21_5, n21_6, n22_20, m_0, m_1, m_87, m_88, m_89, m_90, m_91, m_92, m_93, m_94, m_95, m_96, m_97, m_98, p_0, p_1, p_87, p_88, p_89, p_90, p_91, p_92, p_93, p_94, p_95, p_96, p_97, p_98, gR_mmb, gN_mmb, gL_mmb, i3_add1, i3_add, i3_mul, i3_addl, i3_mull, i3_ladd, i3_lmul, i3_div4, i3_le, i3_lt, i3_eq, i3_lel, i3_lle, i3_ltl, i3_llt, i3_eql, i3_leq, i3_nl, i3_0l, i3_nn, n1_lt, n1_le, xi_i3, xin_i3, xi_lit, xin_lit, xb0, xb1, gd_t, nz4, Option.bind_some, gR_emb, gN_emb, gL_emb, ↓reduceIte, if_true, if_false, not_true_eq_false, not_false_eq_true, eq_self, Nat.not_lt_zero, Nat.zero_le, true_or, or_true, false_or, or_false, true_and, and_true, false_and, and_false, hnode.1, hnode.2.1, hnode.2.2.1, hlk.1, hlk.2.1]
        by_cases c1 : D 3 s - D 4 s = i3 (fsN D)
        · rw [if_neg (fun q => q c1)]
          by_cases c2 : D 5 s = i3 (wpN D)
          · rw [if_neg (fun q => q c2)]
            rw [decide_eq_true ⟨c1, c2⟩] at hw
            obtain ⟨G1, Y1, r1, r2, r3⟩ := t_mnt101 (K := L_X12_mounts_21 fu n) (fu := fu) (M := M) h hM hb hB hA hN hS hC hf hs hw n10 n6 c 0 fu G Y (by omega) (by omega) hY (PA_cg (fun a q => ⟨fun w => Or.inl w, fun w => by
              rcases w with w | ⟨j, j1, -⟩
              · exact w
              · exact absurd j1 (Nat.not_lt_zero _)⟩) hP)
            rw [show (0 : Int32) = i3 0 from rfl] 
            rw [r1]
            refine ih (s + 1) n G1 Y1 (by omega) (by omega) r2 (PA_cg (fun a q => ?_) r3)
            constructor
            · rintro (⟨o, i, o1, o2⟩ | ⟨j, j1, j2, j3⟩)
              · exact ⟨o, i, by omega, o2⟩
              · exact ⟨s, j, by omega, hw, by rw [n10, xi_i3 (by omega)]; exact j1, j2, j3⟩
            · rintro ⟨o, i, o1, o2, o3, o4, o5⟩
              rcases Nat.lt_or_ge o s with cc | cc
              · exact Or.inl ⟨o, i, cc, o2, o3, o4, o5⟩
              · have : o = s := by omega
                subst this
                rw [n10, xi_i3 (by omega)] at o3
                exact Or.inr ⟨i, o3, o4, o5⟩
          · rw [if_pos c2]
            exact skip (by rw [hw, decide_eq_false (fun q => c2 q.2)])
        · rw [if_pos c1]
          exact skip (by rw [hw, decide_eq_false (fun q => c1 q.1)])
    · rw [if_pos hk]
      refine skip ?_
      unfold isWholeT
      rw [decide_eq_false hk, Bool.false_and]
theorem great_is (hN : InN C D) : ∀ s, s ≤ tot C → ∃ m, greatT D s = i3 m ∧ m < 2147483648 ∧ (∀ o, o < s → isN D o → sq D o ≤ m) ∧ (m = 0 ∨ ∃ o, o < s ∧ isN D o ∧ sq D o = m)
  | 0, _ => ⟨0, rfl, by omega, fun o h => absurd h (Nat.not_lt_zero _), Or.inl rfl⟩
  | s + 1, hs => by
    obtain ⟨m, h1, h2, h3, h4⟩ := great_is hN s (by omega)
    show ∃ m, xmaxI (greatT D s) (D 3 s) = i3 m ∧ _
    rw [h1]
    by_cases hn : isN D s
    · have hq := node_seq (hN s (by omega)) hn
      have hsl : sq D s < 2147483648 := xi_lt _
      rw [hq.1, xmax_n h2 hsl]
      refine ⟨_, rfl, by split <;> omega, fun o ho ho2 => ?_, ?_⟩
      · rcases Nat.lt_or_ge o s with cc | cc
        · have := h3 o cc ho2; split <;> omega
        · have : o = s := by omega
          rw [this]; split <;> omega
      · by_cases cc : m < sq D s
        · rw [if_pos cc]; exact Or.inr ⟨s, by omega, hn, rfl⟩
        · rw [if_neg cc]
          rcases h4 with q | ⟨o, o1, o2⟩
          · exact Or.inl q
          · exact Or.inr ⟨o, by omega, o2⟩
    · have e := node_not (hN s (by omega)) hn
      have e2 : xmaxI (i3 m) (D 3 s) = i3 m := by
        unfold xmaxI
        rw [e, if_neg (fun q => by
          have := Int32.lt_iff_toInt_lt.mp q
          rw [i3_toInt h2] at this
          have e5 : (-1 : Int32).toInt = -1 := by decide
          omega)]
      refine ⟨m, e2, h2, fun o ho ho2 => ?_, ?_⟩
      · rcases Nat.lt_or_ge o s with cc | cc
        · exact h3 o cc ho2
        · have : o = s := by omega
          rw [this] at ho2; exact absurd ho2 hn
      · rcases h4 with q | ⟨o, o1, o2⟩
        · exact Or.inl q
        · exact Or.inr ⟨o, by omega, o2⟩
theorem t_mnt195 (h : Lay M) (hM : MCfg C X) (hb : b ≤ 2140) (hB : CB C) (hA : InA L D) (hN : InN C D) (hY : MI C b D X G x y Y) (hf : 100 < fu) :
    L_X12_mounts_195 fu fu 0 (i3 b) 0 0 (mmb Y M) = L_X12_mounts_271 fu fu 0 (i3 b) (greatT D (tot C)) 0 (i3 (bsN D + 1)) (mmb Y M) := by
  have h36 := tot36 hB
  refine lpc (fun n s x => L_X12_mounts_195 fu n 0 (i3 b) x (i3 s) (mmb Y M)) (greatT D) (tot C) _ ?_ ?_ fu 0 (by omega) (by omega)
  · intro n s hs
    show L_X12_mounts_195 fu (n + 1) 0 (i3 b) (greatT D s) (i3 s) (mmb Y M) = L_X12_mounts_195 fu n 0 (i3 b) (xmaxI (greatT D s) (D 3 s)) (i3 (s + 1)) (mmb Y M)
    obtain ⟨m, h1, h2, -⟩ := great_is hN s (by omega)
    conv => lhs; unfold L_X12_mounts_195
    rw [t_all h (MI_cfg hY hM)]
    simp only [Option.bind_some]
    rw [if_neg (fun q => by have := (i3_le (by omega) (by omega)).mp q; omega), MI_type h hb hB hY hs]
    simp only [Option.bind_some]
    have off : ¬ isN D s → xmaxI (greatT D s) (D 3 s) = greatT D s := by
      intro hn
      rw [h1, node_not (hN s hs) hn]
      unfold xmaxI
      rw [if_neg (fun q => by
        have := Int32.lt_iff_toInt_lt.mp q
        rw [i3_toInt h2] at this
        have e5 : (-1 : Int32).toInt = -1 := by decide
        omega)]
    unfold J_X12_mounts_227
    by_cases c0 : D 2 s = 0
    · rw [if_pos c0, if_pos rfl, i3_add1, off (fun q => (isN_ne q).1 c0)]
    · rw [if_neg c0, MI_type h hb hB hY hs]
      simp only [Option.bind_some]
      by_cases c4 : D 2 s = 4
      · rw [if_pos c4, if_pos trivial, i3_add1, off (fun q => (isN_ne q).2 c4)]
      · rw [if_neg c4, if_neg (by decide), MI_number h hb hB hY hs c0]
        simp only [Option.bind_some]
        unfold xmaxI
        by_cases c : D 3 s ≤ greatT D s
        · rw [if_pos c, if_neg (Int32.not_lt.mpr c), i3_add1]
        · rw [if_neg c, if_pos (Int32.not_le.mp c), MI_number h hb hB hY hs c0]
          simp only [Option.bind_some]
          rw [i3_add1]
  · intro n
    show L_X12_mounts_195 fu (n + 1) 0 (i3 b) (greatT D (tot C)) (i3 (tot C)) (mmb Y M) = _
    conv => lhs; unfold L_X12_mounts_195
    rw [t_all h (MI_cfg hY hM)]
    simp only [Option.bind_some]
    have hlk := MI_lk hY
    rw [if_pos (Int32.le_refl _), t_base hA ⟨hlk.1, hlk.2.1⟩]
    simp only [Option.bind_some]
    rw [i3_add1]
end
