/-! ===== a commit, in the reference, whole ===== -/
section
variable {M : xM} {D E X Y Z T P X' E' E'' X'' : xT} {C : xC} {R N : Nat → Int32} {fu b d L L' s o t k n m i j p q f l w nb nw a at' : Nat} {x y z v u : Int32} {nt : Bool} {K : Nat → Int32 → Int32 → Int32 → Int32 → xM → Option (Int32 × xM)}
def partX (Y : xT) (k0 k1 k2 k3 k4 : Int32) : xT := up (up (up (up (up Y 96 0 k0) 96 1 k1) 96 2 k2) 96 3 k3) 96 4 k4
theorem partX_o {k0 k1 k2 k3 k4 : Int32} (h : j ≠ 96 ∨ 5 ≤ k) : partX Y k0 k1 k2 k3 k4 j k = Y j k := by
  unfold partX
  rw [up_ne (by omega), up_ne (by omega), up_ne (by omega), up_ne (by omega), up_ne (by omega)]
theorem partX_96 {k0 k1 k2 k3 k4 : Int32} : partX Y k0 k1 k2 k3 k4 96 0 = k0 ∧ partX Y k0 k1 k2 k3 k4 96 1 = k1 ∧ partX Y k0 k1 k2 k3 k4 96 2 = k2 ∧ partX Y k0 k1 k2 k3 k4 96 3 = k3 ∧ partX Y k0 k1 k2 k3 k4 96 4 = k4 := by
  unfold partX
  refine ⟨?_, ?_, ?_, ?_, ?_⟩
  · rw [up_ne (by omega), up_ne (by omega), up_ne (by omega), up_ne (by omega), up_eq]
  · rw [up_ne (by omega), up_ne (by omega), up_ne (by omega), up_eq]
  · rw [up_ne (by omega), up_ne (by omega), up_eq]
  · rw [up_ne (by omega), up_eq]
  · rw [up_eq]
theorem t_comLoop (h : Lay M) (hb : b ≤ 2140) (hB : CB C) (hf : 100 < fu) (hn6 : n ≤ 6) (hL : L + n < 1000000) (nt : Bool) : ∀ (m i at' w : Nat) (E X : xT), i + m = n → m < w → at' ≤ 20 → CMI C L D E n i → Rel C b E X → MCfg C X → (m = 0 → X 0 22 = -1) →
    ∃ X', L_X12_commits_33 fu w 0 (i3 b) (i3 n) (i3 at') (i3 i) (mmb X M) = some ((comR nt (C 0 0) (C 0 1) n m i at' E).1, mmb X' M) ∧ Rel C b (comR nt (C 0 0) (C 0 1) n m i at' E).2 X' ∧ MCfg C X' ∧ Fm b X X' ∧ X' 0 22 = -1 ∧ Pc nt b E (comR nt (C 0 0) (C 0 1) n m i at' E).2 X X'
  | m, i, at', 0, E, X, hi, hn, hat, hc, hR, hM, h22 => absurd hn (Nat.not_lt_zero _)
  | 0, i, at', w + 1, E, X, hi, hn, hat, hc, hR, hM, h22 => by
    have e : i = n := by omega
    subst e
    refine ⟨X, ?_, ?_, hM, Fm_rf, h22 rfl, Pc_rf rfl ?_⟩
    · unfold L_X12_commits_33 comR
      rw [if_pos (Int32.le_refl _)]
    · unfold comR
      exact Rel_cg hR (fun j k hj => by show up (up (up E 15 5 (E 14 10)) 15 6 (i3 i)) 14 11 0 j k = _; rw [up_ne (by omega), up_ne (by omega), up_ne (by omega)])
    · show up (up (up E 15 5 (E 14 10)) 15 6 (i3 i)) 14 11 0 24 0 = E 24 0
      rw [up_ne (by omega), up_ne (by omega), up_ne (by omega)]
  | m + 1, i, at', w + 1, E, X, hi, hn, hat, hc, hR, hM, h22 => by
    have h36 := tot36 hB
    have hI := CMI_inv hc (show i < n by omega) hn6
    obtain ⟨h0, he0, hst⟩ := CMI_step hB hc (show i < n by omega) hn6 hL hat nt
    have hR0 := Rel_last hR
    have hM0 : InM C (up E 14 10 (E 14 10 + 1)) := h0.2.2.2.2.1
    have hRc : Rel C b (up E 14 10 (E 14 10 + 1)) (fun j k => if j = 96 ∧ k < 13 then -1 else up X 95 b (X 95 b + 1) j k) := Rel_95 hR0 (fun k' => if_neg (by omega))
    obtain ⟨cnt', z', Y, p1, p2, p3, p4⟩ := t_pages (fu := fu) (M := M) (K := L_X12_commits_33 fu w) (x := i3 n) h hb hf hM0 (x4 := i3 i) (20 - at') 0 at' fu _ hRc (by omega) (by omega) (by omega)
    have y95 : ∀ k', Y 95 k' = up X 95 b (X 95 b + 1) 95 k' := fun k' => by rw [p2 _ _ (by decide)]; exact if_neg (by omega)
    have yo : ∀ j k', j ≠ 96 → (j ≠ 95 ∨ k' ≠ b) → Y j k' = X j k' := fun j k' h1 h2 => by
      rw [p2 j k' h1]
      show (if j = 96 ∧ k' < 13 then (-1 : Int32) else up X 95 b (X 95 b + 1) j k') = _
      rw [if_neg (by omega), up_ne (by omega)]
    have hrun : L_X12_commits_33 fu (w + 1) 0 (i3 b) (i3 n) (i3 at') (i3 i) (mmb X M) = (F_X12_puts fu 0 (i3 b) (mmb (partX Y 3 (Y 95 b) (i3 i) (i3 n) (i3 cnt')) M)).bind fun p_12 => if ¬ p_12.1 = 0 then L_X12_commits_33 fu w 0 (i3 b) (i3 n) (i3 z') (i3 (i + 1)) p_12.2 else some (-2, p_12.2) := by
      conv => lhs; unfold L_X12_commits_33
      simp only [e16]
      simp (disch := first | assumption | omega) only [l12_0_1, l12_0_4, l12_0_5, l12_0_6, l12_0_9, l12_0_10, l12_0_11, l12_0_13, l12_0_14, l12_0_15, l12_0_16, l12_0_17, l12_0_18, l12_0_19, l12_0_23, l12_0_24, l12_0_25, l12_0_27, n20_83, n20_84, n20_85, n20_86, n20_87, n20_88, n20_89, n20_90, n20_91, n20_92, n20_93, n20_94, n20_95, n20_96, n20_97, n20_98, n21_2, n21_3, n21_4, n21_5, n21_6, n22_20, m_0, m_1, m_87, m_88, m_89, m_90, m_91, m_92, m_93, m_94, m_95, m_96, m_97, m_98, p_0, p_1, p_87, p_88, p_89, p_90, p_91, p_92, p_93, p_94, p_95, p_96, p_97, p_98, gR_mmb, gN_mmb, gL_mmb, i3_add1, i3_add, i3_mul, i3_addl, i3_mull, i3_ladd, i3_lmul, i3_div4, i3_le, i3_lt, i3_eq, i3_lel, i3_lle, i3_ltl, i3_llt, i3_eql, i3_leq, i3_nl, i3_0l, i3_nn, n1_lt, n1_le, xi_i3, xin_i3, xi_lit, xin_lit, xb0, xb1, gd_t, nz4, Option.bind_some, gR_emb, gN_emb, gL_emb, ↓reduceIte, if_true, if_false, not_true_eq_false, not_false_eq_true, eq_self, Nat.not_lt_zero, Nat.zero_le, true_or, or_true, false_or, or_false, true_and, and_true, false_and, and_false]
      rw [if_neg (by omega), t_clrCom h hf, show (0 : Int32) = i3 0 from rfl, p1]
      unfold J_X12_commits_159
      simp only [e16]
      simp (disch := first | assumption | omega) only [l12_0_1, l12_0_4, l12_0_5, l12_0_6, l12_0_9, l12_0_10, l12_0_11, l12_0_13, l12_0_14, l12_0_15, l12_0_16, l12_0_17, l12_0_18, l12_0_19, l12_0_23, l12_0_24, l12_0_25, l12_0_27, n20_83, n20_84, n20_85, n20_86, n20_87, n20_88, n20_89, n20_90, n20_91, n20_92, n20_93, n20_94, n20_95, n20_96, n20_97, n20_98, n21_2, n21_3, n21_4, n21_5, n21_6, n22_20, m_0, m_1, m_87, m_88, m_89, m_90, m_91, m_92, m_93, m_94, m_95, m_96, m_97, m_98, p_0, p_1, p_87, p_88, p_89, p_90, p_91, p_92, p_93, p_94, p_95, p_96, p_97, p_98, gR_mmb, gN_mmb, gL_mmb, i3_add1, i3_add, i3_mul, i3_addl, i3_mull, i3_ladd, i3_lmul, i3_div4, i3_le, i3_lt, i3_eq, i3_lel, i3_lle, i3_ltl, i3_llt, i3_eql, i3_leq, i3_nl, i3_0l, i3_nn, n1_lt, n1_le, xi_i3, xin_i3, xi_lit, xin_lit, xb0, xb1, gd_t, nz4, Option.bind_some, gR_emb, gN_emb, gL_emb, ↓reduceIte, if_true, if_false, not_true_eq_false, not_false_eq_true, eq_self, Nat.not_lt_zero, Nat.zero_le, true_or, or_true, false_or, or_false, true_and, and_true, false_and, and_false]
      rw [up_ne (D := Y) (j := 96) (k := 0) (by omega)]
      rfl
    have hRY : Rel C b (up E 14 10 (E 14 10 + 1)) (partX Y 3 (Y 95 b) (i3 i) (i3 n) (i3 cnt')) := Rel_95 hR0 (fun k' => by rw [partX_o (Or.inl (by decide)), y95])
    have hMY : MCfg C (partX Y 3 (Y 95 b) (i3 i) (i3 n) (i3 cnt')) := MCfg_90 hM (fun k' => by rw [partX_o (Or.inl (by decide)), yo _ _ (by decide) (Or.inl (by decide))])
    obtain ⟨n0, n1, n2, n3, n4⟩ := @partX_96 Y 3 (Y 95 b) (i3 i) (i3 n) (i3 cnt')
    have nE : ∀ c, partX Y 3 (Y 95 b) (i3 i) (i3 n) (i3 cnt') 96 (5 + c) = Y 96 (5 + c) := fun c => partX_o (Or.inr (by omega))
    have no : ∀ j k', j ≠ 96 → (j ≠ 95 ∨ k' ≠ b) → partX Y 3 (Y 95 b) (i3 i) (i3 n) (i3 cnt') j k' = X j k' := fun j k' h1 h2 => by rw [partX_o (Or.inl h1), yo j k' h1 h2]
    have hseq : Y 95 b = up E 14 10 (E 14 10 + 1) 14 10 := by rw [y95, up_eq, up_eq, hR.1]
    rw [hrun]
    generalize partX Y 3 (Y 95 b) (i3 i) (i3 n) (i3 cnt') = W at hRY hMY n0 n1 n2 n3 n4 nE no ⊢
    obtain ⟨X1, g1, g2, g3, g4, g5, g6, g7, g8⟩ := t_put (fu := fu) (M := M) h hMY hb hB hRY h0 he0 hf nt
    have hF1 : Fm b X X1 := ⟨fun j k' h1 h2 h3 h4 h5 => by rw [g3.1 j k' h1 h2 h3 h4 h5, no j k' h5 (Or.inl h4)], fun k' hk' => by rw [g3.2.1 k' hk', no _ _ (by decide) (Or.inr (by omega))], fun b' hb' hne e => by rw [g4] at e; exact absurd e (neg_i3 (by omega))⟩
    have hPc1 : Pc nt b E (putT nt (up E 14 10 (E 14 10 + 1)) (C 0 0) (C 0 1)).2 X X1 := by
      obtain ⟨c, a1, b1⟩ := g6
      exact ⟨c, by rw [a1, no _ _ (by decide) (Or.inr (by omega))], fun hn P hP hl => b1 hn P (by rw [up_ne (by omega)]; exact hP) hl⟩
    rw [g1, Option.bind_some]
    unfold comR
    rcases hst with ⟨hc2, T, e, hIT⟩ | ⟨hc2, s, T, e, hs, hCT, hat2⟩
    · obtain ⟨T', e', hRT⟩ := g7 hc2
      rw [e] at e' hPc1
      injection e' with _ e'
      subst e'
      rw [e, decide_eq_true hc2, if_neg (show ¬ ¬ (bz (! true) = 0) from fun q => q rfl)]
      exact ⟨X1, rfl, hRT, g2, hF1, g4, hPc1⟩
    · obtain ⟨s', T', e', hRT⟩ := g8 hc2
      rw [e] at e' hPc1
      injection e' with es eT
      injection es with es
      subst es; subst eT
      rw [e, decide_eq_false hc2, if_pos (show ¬ (bz (! false) = 0) from (by decide : ¬ bz (! false) = 0))]
      have hsl : ∀ j k', (j < 14 ∧ j ≠ 1 ∨ j = 14 ∧ k' = 10) → T j k' = up E 14 10 (E 14 10 + 1) j k' := by
        intro j k' hj
        have := (putT_slot (nt := nt) (s := s) h0.1 (by rw [e])).2.2 j k' (by omega)
        rw [e] at this
        exact this
      obtain ⟨f1, f2, f3⟩ := p4 s T (fun a => hsl 9 a (by omega)) (fun a => hsl 12 a (by omega))
      have sp := filR_spec s (20 - at') 0 at' T (by omega) (by omega)
      have hz : (fillPartT T s i n at').1 = z' := f2
      have hR2 : Rel C b (fillPartT T s i n at').2 X1 := by
        show Rel C b (fillT (filR s (20 - at') 0 at' T).2.2 s 3 ((filR s (20 - at') 0 at' T).2.2 14 10) (i3 i) (i3 n) (i3 (filR s (20 - at') 0 at' T).1)) X1
        rw [f1]
        rw [f1] at sp
        generalize (filR s (20 - at') 0 at' T).2.2 = G at f3 sp ⊢
        obtain ⟨-, s2, -, s4, s5, -⟩ := sp
        refine hRT _ (fun j k' hj => by rw [fillT_lo (by omega), s4 j k' (by omega)]) (fun j t ht h1 h2 => by rw [fillT_lo (by omega), s4 j t (by omega)]) (fun j t c ht hc' hj => by rw [fillT_lo (by omega), s5 j _ (by omega)]) ?_ (fun _ => ⟨?_, ?_, ?_, ?_⟩) (fun q c hc' hl => ?_)
        · rw [fillT_2, n0]
        · rw [fillT_3, n1, s4 _ _ (by omega), hsl _ _ (by omega), hseq]
        · rw [fillT_4, n2]
        · rw [fillT_5, n3]
        · rw [fillT_6, n4]
        · rw [fillT_6, i3_lt (by omega) (by omega)] at hl
          rw [fillT_lo (by omega), fillT_lo (by omega), nE, show 6 + 2 * c = 5 + (2 * c + 1) by omega, nE, show 5 + (2 * c + 1) = 6 + 2 * c by omega]
          exact f3 c (Nat.zero_le _) hl
      obtain ⟨X2, k1, k2, k3, k4, k5, k6⟩ := t_comLoop h hb hB hf hn6 hL nt m (i + 1) (fillPartT T s i n at').1 w (fillPartT T s i n at').2 X1 (by omega) (by omega) hat2 hCT hR2 g2 (fun _ => g4)
      refine ⟨X2, ?_, k2, k3, Fm_tr hF1 k4, k5, Pc_tr (Pc_tr hPc1 (Pc_rf rfl ?_)) k6⟩
      · rw [← hz, k1]
      · show fillT (filR s (20 - at') 0 at' T).2.2 s 3 ((filR s (20 - at') 0 at' T).2.2 14 10) (i3 i) (i3 n) (i3 (filR s (20 - at') 0 at' T).1) 24 0 = T 24 0
        rw [fillT_lo (by omega), sp.2.2.2.1 24 0 (by omega)]
theorem t_commits (h : Lay M) (hM : MCfg C X) (hb : b ≤ 2140) (hB : CB C) (hR : Rel C b D X) (hI : Inv C L D) (hL : L + 6 < 1000000) (hL2 : X 0 22 = i3 b → Lk D X) (hf : 100 < fu) (nt : Bool) :
    ∃ X', F_X12_commits fu 0 (i3 b) (mmb X M) = some ((commitT nt D (C 0 0) (C 0 1)).1, mmb X' M) ∧ Rel C b (commitT nt D (C 0 0) (C 0 1)).2 X' ∧ MCfg C X' ∧ Fm b X X' ∧ (X' 0 22 = i3 b → Lk (commitT nt D (C 0 0) (C 0 1)).2 X') ∧ Pc nt b D (commitT nt D (C 0 0) (C 0 1)).2 X X' := by
  have hp := partsN_le D
  have r2 := hR.2.2.1
  have hIM := hI.2.2.2.2.1
  have hIB := hI.2.2.2.2.2.2.2
  have run : F_X12_commits fu 0 (i3 b) (mmb X M) = if D 14 1 = 0 then some (-1, mmb X M) else if i3 (partsN D) ≤ D 15 3 then L_X12_commits_33 fu fu 0 (i3 b) (i3 (partsN D)) 0 0 (mmb X M) else some (-1, mmb X M) := by
    unfold F_X12_commits
    simp (disch := first | assumption | omega) only [l12_0_1, l12_0_4, l12_0_5, l12_0_6, l12_0_9, l12_0_10, l12_0_11, l12_0_13, l12_0_14, l12_0_15, l12_0_16, l12_0_17, l12_0_18, l12_0_19, l12_0_23, l12_0_24, l12_0_25, l12_0_27, n20_83, n20_84, n20_85, n20_86, n20_87, n20_88, n20_89, n20_90, n20_91, n20_92, n20_93, n20_94, n20_95, n20_96, n20_97, n20_98, n21_2, n21_3, n21_4, n21_5, n21_6, n22_20, m_0, m_1, m_87, m_88, m_89, m_90, m_91, m_92, m_93, m_94, m_95, m_96, m_97, m_98, p_0, p_1, p_87, p_88, p_89, p_90, p_91, p_92, p_93, p_94, p_95, p_96, p_97, p_98, gR_mmb, gN_mmb, gL_mmb, i3_add1, i3_add, i3_mul, i3_addl, i3_mull, i3_ladd, i3_lmul, i3_div4, i3_le, i3_lt, i3_eq, i3_lel, i3_lle, i3_ltl, i3_llt, i3_eql, i3_leq, i3_nl, i3_0l, i3_nn, n1_lt, n1_le, xi_i3, xin_i3, xi_lit, xin_lit, xb0, xb1, gd_t, nz4, Option.bind_some, gR_emb, gN_emb, gL_emb, ↓reduceIte, if_true, if_false, not_true_eq_false, not_false_eq_true, eq_self, Nat.not_lt_zero, Nat.zero_le, true_or, or_true, false_or, or_false, true_and, and_true, false_and, and_false, t_partsOf h hb hR hIM hf, r2, t_erased h hM hb hB hR hIB hf]
  rw [run]
  unfold commitT
  by_cases c : D 14 1 = 0
  · rw [if_pos c, if_pos c]
    exact ⟨X, rfl, hR, hM, Fm_rf, hL2, Pc_rf rfl rfl⟩
  · rw [if_neg c, if_neg c]
    by_cases c2 : i3 (partsN D) ≤ D 15 3
    · rw [if_pos c2, if_pos c2]
      obtain ⟨X', g1, g2, g3, g4, g5, g6⟩ := t_comLoop (fu := fu) (M := M) h hb hB hf hp (show L + partsN D < 1000000 by omega) nt (partsN D) 0 0 fu D X (by omega) (by omega) (by omega) (CMI_begin hB hI hp c2) hR hM (fun q => by unfold partsN at q; omega)
      exact ⟨X', g1, g2, g3, g4, fun q => by rw [g5] at q; exact absurd q (neg_i3 (by omega)), g6⟩
    · rw [if_neg c2, if_neg c2]
      exact ⟨X, rfl, hR, hM, Fm_rf, hL2, Pc_rf rfl rfl⟩
end
