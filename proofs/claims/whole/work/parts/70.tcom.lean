/-! ===== a commit, in the reference ===== -/
section
variable {M : xM} {D E X Y Z T P X' E' E'' X'' : xT} {C : xC} {R N : Nat → Int32} {fu b d L L' s o t k n m i j p q f l w nb nw a at' : Nat} {x y z v u : Int32} {nt : Bool} {K : Nat → Int32 → Int32 → Int32 → Int32 → xM → Option (Int32 × xM)}
theorem t_clrCom (h : Lay M) (hf : 100 < fu) {x3 x4 b0 : Int32} : L_X12_commits_54 fu K fu 0 b0 x x3 x4 0 (mmb X M) = L_X12_commits_78 fu K fu 0 b0 x x3 x4 0 (mmb (fun j k => if j = 96 ∧ k < 13 then -1 else X j k) M) := by
  have key : ∀ m i, i + m = 13 → L_X12_commits_54 fu K (fu - 13 + m) 0 b0 x x3 x4 (i3 i) (mmb (fun j k => if j = 96 ∧ k < i then -1 else X j k) M) = L_X12_commits_54 fu K (fu - 13) 0 b0 x x3 x4 (i3 13) (mmb (fun j k => if j = 96 ∧ k < 13 then -1 else X j k) M) := by
    intro m
    induction m with
    | zero => intro i hi; have : i = 13 := by omega
              subst this; rfl
    | succ m ih =>
      intro i hi
      rw [← ih (i + 1) (by omega)]
      show L_X12_commits_54 fu K (fu - 13 + m + 1) 0 b0 x x3 x4 (i3 i) _ = _
      conv => lhs; unfold L_X12_commits_54
      simp (disch := first | assumption | omega) only [l12_0_1, l12_0_4, l12_0_5, l12_0_6, l12_0_9, l12_0_10, l12_0_11, l12_0_13, l12_0_14, l12_0_15, l12_0_16, l12_0_17, l12_0_18, l12_0_19, l12_0_23, l12_0_24, l12_0_25, l12_0_27, n20_83, n20_84, n20_85, n20_86, n20_87, n20_88, n20_89, n20_90, n20_91, n20_92, n20_93, n20_94, n20_95, n20_96, n20_97, n20_98, n21_2, n21_3, n21_4, n21_5, n21_6, n22_20, m_0, m_1, m_87, m_88, m_89, m_90, m_91, m_92, m_93, m_94, m_95, m_96, m_97, m_98, p_0, p_1, p_87, p_88, p_89, p_90, p_91, p_92, p_93, p_94, p_95, p_96, p_97, p_98, gR_mmb, gN_mmb, gL_mmb, i3_add1, i3_add, i3_mul, i3_addl, i3_mull, i3_ladd, i3_lmul, i3_div4, i3_le, i3_lt, i3_eq, i3_lel, i3_lle, i3_ltl, i3_llt, i3_eql, i3_leq, i3_nl, i3_0l, i3_nn, n1_lt, n1_le, xi_i3, xin_i3, xi_lit, xin_lit, xb0, xb1, gd_t, nz4, Option.bind_some, gR_emb, gN_emb, gL_emb, ↓reduceIte, if_true, if_false, not_true_eq_false, not_false_eq_true, eq_self, Nat.not_lt_zero, Nat.zero_le, true_or, or_true, false_or, or_false, true_and, and_true, false_and, and_false]
      rw [if_neg (by omega)]
      congr 2
      funext j k
      rw [up_at]
      by_cases c : j = 96
      · by_cases c2 : k = i
        · simp [c, c2]
        · have q : (k < i + 1) = (k < i) := by apply propext; omega
          simp [c, c2, q]
      · simp [c]
  have := key 13 0 rfl
  rw [show fu - 13 + 13 = fu by omega] at this
  have e0 : (fun j k => if j = 96 ∧ k < 0 then -1 else X j k : xT) = X := by funext j k; simp
  rw [e0] at this
  rw [show (0 : Int32) = i3 0 from rfl]
  rw [this]
  obtain ⟨fu', hfu⟩ : ∃ w, fu - 13 = w + 1 := ⟨fu - 14, by omega⟩
  rw [hfu]
  conv => lhs; unfold L_X12_commits_54
  rw [if_pos (by decide)]
  rfl
theorem kept_cg (h9 : ∀ a, T 9 a = E 9 a) (h12 : ∀ a, T 12 a = E 12 a) : keptT T a = keptT E a := by unfold keptT; rw [h9, h12]
/-- the entries of a part: the reference's loop is the class's -/
theorem t_pages (h : Lay M) (hb : b ≤ 2140) (hf : 100 < fu) (hM : InM C E) {x4 : Int32} : ∀ (k cnt z n : Nat) (Y : xT), Rel C b E Y → z + k = 20 → cnt ≤ 4 → k < n →
    ∃ (cnt' z' : Nat) (Y' : xT), L_X12_commits_78 fu K n 0 (i3 b) x (i3 z) x4 (i3 cnt) (mmb Y M) = J_X12_commits_159 fu K 0 (i3 b) x (i3 z') x4 (i3 cnt') (mmb Y' M) ∧ (∀ j k, j ≠ 96 → Y' j k = Y j k) ∧ (∀ k, k < 5 + 2 * cnt → Y' 96 k = Y 96 k) ∧
      ∀ (s : Nat) (T : xT), (∀ a, T 9 a = E 9 a) → (∀ a, T 12 a = E 12 a) → (filR s k cnt z T).1 = cnt' ∧ (filR s k cnt z T).2.1 = z' ∧ ∀ c, cnt ≤ c → c < cnt' → (filR s k cnt z T).2.2 7 (s * 4 + c) = Y' 96 (5 + 2 * c) ∧ (filR s k cnt z T).2.2 8 (s * 4 + c) = Y' 96 (6 + 2 * c)
  | k, cnt, z, 0, Y, hR, hz, hc, hn => absurd hn (Nat.not_lt_zero _)
  | 0, cnt, z, n + 1, Y, hR, hz, hc, hn => by
    have e : z = 20 := by omega
    subst e
    refine ⟨cnt, 20, Y, ?_, fun _ _ _ => rfl, fun _ _ => rfl, fun s T _ _ => ⟨rfl, rfl, fun c h1 h2 => by omega⟩⟩
    conv => lhs; unfold L_X12_commits_78
    rw [if_pos (by decide)]
  | k + 1, cnt, z, n + 1, Y, hR, hz, hc, hn => by
    by_cases c4 : 4 ≤ cnt
    · have e : cnt = 4 := by omega
      subst e
      refine ⟨4, z, Y, ?_, fun _ _ _ => rfl, fun _ _ => rfl, fun s T _ _ => ?_⟩
      · conv => lhs; unfold L_X12_commits_78
        rw [if_neg (by rw [show (20 : Int32) = i3 20 from rfl, i3_le (by omega) (by omega)]; omega), if_pos (by decide)]
      · unfold filR
        rw [if_pos c4]
        exact ⟨rfl, rfl, fun c h1 h2 => by omega⟩
    · have r9 := hR.2.2.2.2.2.2.2.2.1 z (by omega)
      have hm := map_le hM (show z < 20 by omega)
      have h12 := bit_01 hR.2.2.2.2.2.1 (show z / 4 < 5 by omega)
      have hk : keptT E z = (decide (¬ E 9 z = 0) && decide (E 12 (z / 4) = 0)) := rfl
      have run : L_X12_commits_78 fu K (n + 1) 0 (i3 b) x (i3 z) x4 (i3 cnt) (mmb Y M) = if keptT E z then L_X12_commits_78 fu K n 0 (i3 b) x (i3 (z + 1)) x4 (i3 (cnt + 1)) (mmb (up (up Y 96 (5 + 2 * cnt) (i3 z)) 96 (6 + 2 * cnt) (E 9 z)) M) else L_X12_commits_78 fu K n 0 (i3 b) x (i3 (z + 1)) x4 (i3 cnt) (mmb Y M) := by
        conv => lhs; unfold L_X12_commits_78
        rw [hk]
        simp (disch := first | assumption | omega) only [l12_0_1, l12_0_4, l12_0_5, l12_0_6, l12_0_9, l12_0_10, l12_0_11, l12_0_13, l12_0_14, l12_0_15, l12_0_16, l12_0_17, l12_0_18, l12_0_19, l12_0_23, l12_0_24, l12_0_25, l12_0_27, n20_83, n20_84, n20_85, n20_86, n20_87, n20_88, n20_89, n20_90, n20_91, n20_92, n20_93, n20_94, n20_95, n20_96, n20_97, n20_98, n21_2, n21_3, n21_4, n21_5, n21_6, n22_20, m_0, m_1, m_87, m_88, m_89, m_90, m_91, m_92, m_93, m_94, m_95, m_96, m_97, m_98, p_0, p_1, p_87, p_88, p_89, p_90, p_91, p_92, p_93, p_94, p_95, p_96, p_97, p_98, gR_mmb, gN_mmb, gL_mmb, i3_add1, i3_add, i3_mul, i3_addl, i3_mull, i3_ladd, i3_lmul, i3_div4, i3_le, i3_lt, i3_eq, i3_lel, i3_lle, i3_ltl, i3_llt, i3_eql, i3_leq, i3_nl, i3_0l, i3_nn, n1_lt, n1_le, xi_i3, xin_i3, xi_lit, xin_lit, xb0, xb1, gd_t, nz4, Option.bind_some, gR_emb, gN_emb, gL_emb, ↓reduceIte, if_true, if_false, not_true_eq_false, not_false_eq_true, eq_self, Nat.not_lt_zero, Nat.zero_le, true_or, or_true, false_or, or_false, true_and, and_true, false_and, and_false, r9, hm, t_isOrphan h hb hR (show z / 4 < 5 by omega)]
        rw [if_neg (by omega), if_neg (by omega)]
        by_cases c1 : E 9 z = 0
        · simp [c1]
        · rcases h12 with c2 | c2
          · simp [c1, c2]
            rw [up_ne (by omega), r9]
          · simp [c1, c2]
      rw [run]
      cases e : keptT E z with
      | false =>
        simp only [Bool.false_eq_true, if_false]
        obtain ⟨cnt', z', Y', g1, g2, g3, g4⟩ := t_pages h hb hf hM k cnt (z + 1) n Y hR (by omega) hc (by omega)
        refine ⟨cnt', z', Y', g1, g2, g3, fun s T h9 h12 => ?_⟩
        unfold filR
        rw [if_neg c4, kept_cg h9 h12, e]
        exact g4 s T h9 h12
      | true =>
        simp only [if_true]
        obtain ⟨cnt', z', Y', g1, g2, g3, g4⟩ := t_pages h hb hf hM k (cnt + 1) (z + 1) n (up (up Y 96 (5 + 2 * cnt) (i3 z)) 96 (6 + 2 * cnt) (E 9 z)) (Rel_95 hR (fun k' => by rw [up_ne (by omega), up_ne (by omega)])) (by omega) (by omega) (by omega)
        refine ⟨cnt', z', Y', g1, fun j k' hj => by rw [g2 j k' hj, up_ne (by omega), up_ne (by omega)], fun k' hk' => by rw [g3 k' (by omega), up_ne (by omega), up_ne (by omega)], fun s T h9 h12 => ?_⟩
        unfold filR
        rw [if_neg c4, kept_cg h9 h12, e]
        simp only [if_true]
        have sp := filR_spec s k (cnt + 1) (z + 1) (up (up T 7 (s * 4 + cnt) (i3 z)) 8 (s * 4 + cnt) (T 9 z)) (by omega) (by omega)
        obtain ⟨q1, q2, q3⟩ := g4 s (up (up T 7 (s * 4 + cnt) (i3 z)) 8 (s * 4 + cnt) (T 9 z)) (fun a => by rw [up_ne (by omega), up_ne (by omega)]; exact h9 a) (fun a => by rw [up_ne (by omega), up_ne (by omega)]; exact h12 a)
        refine ⟨q1, q2, fun c h1 h2 => ?_⟩
        rcases Nat.lt_or_ge cnt c with q | q
        · exact q3 c q h2
        · have : c = cnt := by omega
          subst this
          rw [sp.2.2.2.2.1 7 _ (by omega), sp.2.2.2.2.1 8 _ (by omega), up_ne (by omega), up_eq, up_eq, g3 _ (by omega), g3 _ (by omega), up_ne (by omega), up_eq, up_eq]
          exact ⟨rfl, h9 z⟩
end
