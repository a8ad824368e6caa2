/-! ===== a new node: what it is, both sides, with notes ===== -/
section
variable {M : xM} {D E X Y Z T P X' E' E'' X'' : xT} {C : xC} {R N : Nat → Int32} {fu b d L L' s o t k n m i j p q f l w nb nw a at' r : Nat} {x y z v u c : Int32} {nt : Bool}
theorem Inv_but9 (hI : Inv C L D) (h : ∀ j k', j ≠ 9 → j ≠ 10 → j ≠ 11 → j ≠ 12 → j ≠ 13 → (j ≠ 14 ∨ k' ≠ 11 ∧ k' ≠ 14 ∧ k' ≠ 15) → j < 25 → E j k' = D j k') (hM2 : InM C E) (hO2 : InO E) : Inv C L E := by
  obtain ⟨hO, hA, hN, hS, hM, hC, hOo, hIB⟩ := hI
  have e : ∀ j k', j ≠ 9 → j ≠ 10 → j ≠ 11 → j ≠ 12 → j ≠ 13 → j ≠ 14 → j < 25 → E j k' = D j k' := fun j k' h1 h2 h3 h4 h5 h6 h7 => h j k' h1 h2 h3 h4 h5 (Or.inl h6) h7
  have hls : lsN E = lsN D := by unfold lsN; rw [h 14 10 (by omega) (by omega) (by omega) (by omega) (by omega) (by omega) (by omega)]
  have hbs : bsN E = bsN D := by unfold bsN; rw [e 15 5 (by omega) (by omega) (by omega) (by omega) (by omega) (by omega) (by omega)]
  have hwp : wpN E = wpN D := by unfold wpN; rw [e 15 6 (by omega) (by omega) (by omega) (by omega) (by omega) (by omega) (by omega)]
  have e2 : ∀ t, E 2 t = D 2 t := fun t => e 2 t (by omega) (by omega) (by omega) (by omega) (by omega) (by omega) (by omega)
  have e3 : ∀ t, E 3 t = D 3 t := fun t => e 3 t (by omega) (by omega) (by omega) (by omega) (by omega) (by omega) (by omega)
  have e4 : ∀ t, E 4 t = D 4 t := fun t => e 4 t (by omega) (by omega) (by omega) (by omega) (by omega) (by omega) (by omega)
  have e5 : ∀ t, E 5 t = D 5 t := fun t => e 5 t (by omega) (by omega) (by omega) (by omega) (by omega) (by omega) (by omega)
  have e6 : ∀ t, E 6 t = D 6 t := fun t => e 6 t (by omega) (by omega) (by omega) (by omega) (by omega) (by omega) (by omega)
  have e7 : ∀ t, E 7 t = D 7 t := fun t => e 7 t (by omega) (by omega) (by omega) (by omega) (by omega) (by omega) (by omega)
  have e8 : ∀ t, E 8 t = D 8 t := fun t => e 8 t (by omega) (by omega) (by omega) (by omega) (by omega) (by omega) (by omega)
  have hsq : ∀ t, sq E t = sq D t := fun t => by unfold sq; rw [e3]
  have hpg : ∀ t, pgT E t = pgT D t := fun t => by unfold pgT; rw [e4, e5]
  have hA2 : ∀ n, eraA E (C 0 1) n = eraA D (C 0 1) n := by
    intro n
    induction n with
    | zero => rfl
    | succ n ih => show eraA E (C 0 1) n + eraN E (C 0 1) n (C 0 1) = _ + _; rw [ih]; congr 1; unfold eraN; exact cnt_congr (fun i hi => by rw [e2])
  refine ⟨Ok_congr hO (fun j k' q => e j k' (by omega) (by omega) (by omega) (by omega) (by omega) (by omega) (by omega)), ?_, fun t ht => node_congr (e2 t) (e3 t) (e4 t) (e5 t) (e6 t) (fun n _ => ⟨e7 _, e8 _⟩) (by rw [hls]; exact Nat.le_refl _) (hN t ht), ?_, hM2, ?_, hO2, ?_⟩
  · unfold InA at hA ⊢
    rw [hls, hbs, hwp, h 14 10 (by omega) (by omega) (by omega) (by omega) (by omega) (by omega) (by omega), e 15 5 (by omega) (by omega) (by omega) (by omega) (by omega) (by omega) (by omega), e 15 6 (by omega) (by omega) (by omega) (by omega) (by omega) (by omega) (by omega)]
    exact hA
  · unfold InS isN at hS ⊢
    simp only [e2, e3, e4, e5, e6, e7, e8]
    exact hS
  · unfold InC at hC ⊢
    simp only [e2, e3, e4, e5, e6, e7, e8, hbs, hwp, hsq, hpg]
    exact hC
  · unfold InB at hIB ⊢
    simp only [hA2, e2, e 15 3 (by omega) (by omega) (by omega) (by omega) (by omega) (by omega) (by omega), e 15 4 (by omega) (by omega) (by omega) (by omega) (by omega) (by omega) (by omega), fun k' => e 1 k' (by omega) (by omega) (by omega) (by omega) (by omega) (by omega) (by omega)]
    exact hIB
/-- what stands behind a new node -/
theorem putNew_is (hB : CB C) (hI : Inv C L D) (hL : L + 1 < 1000000) (he : ¬ D 15 3 = 0) :
    ((putNewT nt D (C 0 0) (C 0 1) x y z v).1 = false ∧ D 14 2 = 1 ∧ (putNewT nt D (C 0 0) (C 0 1) x y z v).2 14 11 = 0) ∨
    ((putNewT nt D (C 0 0) (C 0 1) x y z v).1 = true ∧ ¬ D 14 2 = 1 ∧ ∃ s, s < tot C ∧ D 2 s = 0 ∧ (putNewT nt D (C 0 0) (C 0 1) x y z v).2 14 11 = 0 ∧ (putNewT nt D (C 0 0) (C 0 1) x y z v).2 15 3 = D 15 3 - 1 ∧
      (putNewT nt D (C 0 0) (C 0 1) x y z v).2 14 10 = D 14 10 + 1 ∧ (∀ k, (putNewT nt D (C 0 0) (C 0 1) x y z v).2 2 s = x ∧ (putNewT nt D (C 0 0) (C 0 1) x y z v).2 3 s = D 14 10 + 1 ∧ (putNewT nt D (C 0 0) (C 0 1) x y z v).2 4 s = y ∧ (putNewT nt D (C 0 0) (C 0 1) x y z v).2 5 s = z ∧ ((9 ≤ k ∧ k < 14) → ∀ t, (putNewT nt D (C 0 0) (C 0 1) x y z v).2 k t = D k t) ∧ (putNewT nt D (C 0 0) (C 0 1) x y z v).2 14 1 = D 14 1 ∧ (putNewT nt D (C 0 0) (C 0 1) x y z v).2 15 5 = D 15 5 ∧ (putNewT nt D (C 0 0) (C 0 1) x y z v).2 15 6 = D 15 6)) := by
  have h0 := Inv_last hI hL
  have he0 : ¬ up D 14 10 (D 14 10 + 1) 15 3 = 0 := by rw [up_ne (by omega)]; exact he
  obtain ⟨k0, l, hSp, hh, hst, hs0, hput⟩ := put_frame hB h0 he0 nt
  have h11 := putT_11 (nt := nt) (D := up D 14 10 (D 14 10 + 1)) (nb := C 0 0) (nw := C 0 1) (s := 0)
  unfold putNewT
  rcases hput with ⟨hc, e⟩ | ⟨hc, D1, e, hPo⟩
  · left
    rw [up_ne (by omega)] at hc
    have := h11.1 _ e (by
      obtain ⟨k, l, -, h2, -⟩ := take_spot hB h0.1 h0.2.2.2.2.2.2.2 he0
      rw [h2]; exact fun q => by cases q)
    rw [e]
    exact ⟨rfl, hc, this⟩
  · right
    rw [up_ne (by omega)] at hc hs0
    obtain ⟨f1, f2, f3, f4, f5, f6, f7⟩ := hPo
    rw [e]
    simp only
    refine ⟨trivial, hc, _, hst, hs0, ?_, ?_, ?_, fun k' => ⟨fillT_2, ?_, fillT_4, fillT_5, fun hk t' => ?_, ?_, ?_, ?_⟩⟩
    · rw [fillT_lo (by omega)]; exact f2
    · rw [fillT_lo (by omega), f7, up_ne (by omega)]
    · rw [fillT_lo (by omega), f1 _ _ (by omega), up_eq]
    · rw [fillT_3, f1 _ _ (by omega), up_eq]
    · rw [fillT_lo (by omega), f1 _ _ (by omega), up_ne (by omega)]
    · rw [fillT_lo (by omega), f1 _ _ (by omega), up_ne (by omega)]
    · rw [fillT_lo (by omega), f1 _ _ (by omega), up_ne (by omega)]
    · rw [fillT_lo (by omega), f1 _ _ (by omega), up_ne (by omega)]
theorem t_putsN (h : Lay M) (hM : MCfg C X) (hb : b ≤ 2140) (hB : CB C) (hR : Rel C b D X) (hI : Inv C L D) (hL : L + 1 < 1000000) (he : ¬ D 15 3 = 0) (hx : x ≠ 3) (hf : 100 < fu) (nt : Bool) :
    ∃ X', F_X12_putsNew fu 0 (i3 b) x y z v (mmb X M) = some (bz (putNewT nt D (C 0 0) (C 0 1) x y z v).1, mmb X' M) ∧ Rel C b (putNewT nt D (C 0 0) (C 0 1) x y z v).2 X' ∧ MCfg C X' ∧ Fm b X X' ∧ X' 0 22 = -1 ∧ Pc nt b D (putNewT nt D (C 0 0) (C 0 1) x y z v).2 X X' := by
  have h0 := Inv_last hI hL
  have hR0 := Rel_last hR
  have he0 : ¬ up D 14 10 (D 14 10 + 1) 15 3 = 0 := by rw [up_ne (by omega)]; exact he
  have hrun : F_X12_putsNew fu 0 (i3 b) x y z v (mmb X M) = (F_X12_puts fu 0 (i3 b) (mmb (nodeX (up X 95 b (X 95 b + 1)) x (X 95 b + 1) y z v) M)).bind fun p_12 => gd (xbool p_12.1) (some (p_12.1, p_12.2)) := by
    unfold F_X12_putsNew
    simp only [e16]
    simp (disch := first | assumption | omega) only [l12_0_1, l12_0_4, l12_0_5, l12_0_6, l12_0_9, l12_0_10, l12_0_11, l12_0_13, l12_0_14, l12_0_15, l12_0_16, l12_0_17, l12_0_18, l12_0_19, l12_0_23, l12_0_24, l12_0_25, l12_0_27, n20_83, n20_84, n20_85, n20_86, n20_87, n20_88, n20_89, n20_90, n20_91, n20_92, n20_93, n20_94, n20_95, n20_96, n20_97, n20_98, n21_2, n21_3, n21_4, n21_5, n21_6, n22_20, m_0, m_1, m_87, m_88, m_89, m_90, m_91, m_92, m_93, m_94, m_95, m_96, m_97, m_98, p_0, p_1, p_87, p_88, p_89, p_90, p_91, p_92, p_93, p_94, p_95, p_96, p_97, p_98, gR_mmb, gN_mmb, gL_mmb, i3_add1, i3_add, i3_mul, i3_addl, i3_mull, i3_ladd, i3_lmul, i3_div4, i3_le, i3_lt, i3_eq, i3_lel, i3_lle, i3_ltl, i3_llt, i3_eql, i3_leq, i3_nl, i3_0l, i3_nn, n1_lt, n1_le, xi_i3, xin_i3, xi_lit, xin_lit, xb0, xb1, gd_t, nz4, Option.bind_some, gR_emb, gN_emb, gL_emb, ↓reduceIte, if_true, if_false, not_true_eq_false, not_false_eq_true, eq_self, Nat.not_lt_zero, Nat.zero_le, true_or, or_true, false_or, or_false, true_and, and_true, false_and, and_false]
    rw [t_clrNode h hf]
    obtain ⟨fu', hfu⟩ : ∃ w, fu - 13 = w + 1 := ⟨fu - 14, by omega⟩
    rw [hfu]
    conv => lhs; unfold L_X12_putsNew_15
    rw [if_pos (by decide)]
    simp only [e16]
    simp (disch := first | assumption | omega) only [l12_0_1, l12_0_4, l12_0_5, l12_0_6, l12_0_9, l12_0_10, l12_0_11, l12_0_13, l12_0_14, l12_0_15, l12_0_16, l12_0_17, l12_0_18, l12_0_19, l12_0_23, l12_0_24, l12_0_25, l12_0_27, n20_83, n20_84, n20_85, n20_86, n20_87, n20_88, n20_89, n20_90, n20_91, n20_92, n20_93, n20_94, n20_95, n20_96, n20_97, n20_98, n21_2, n21_3, n21_4, n21_5, n21_6, n22_20, m_0, m_1, m_87, m_88, m_89, m_90, m_91, m_92, m_93, m_94, m_95, m_96, m_97, m_98, p_0, p_1, p_87, p_88, p_89, p_90, p_91, p_92, p_93, p_94, p_95, p_96, p_97, p_98, gR_mmb, gN_mmb, gL_mmb, i3_add1, i3_add, i3_mul, i3_addl, i3_mull, i3_ladd, i3_lmul, i3_div4, i3_le, i3_lt, i3_eq, i3_lel, i3_lle, i3_ltl, i3_llt, i3_eql, i3_leq, i3_nl, i3_0l, i3_nn, n1_lt, n1_le, xi_i3, xin_i3, xi_lit, xin_lit, xb0, xb1, gd_t, nz4, Option.bind_some, gR_emb, gN_emb, gL_emb, ↓reduceIte, if_true, if_false, not_true_eq_false, not_false_eq_true, eq_self, Nat.not_lt_zero, Nat.zero_le, true_or, or_true, false_or, or_false, true_and, and_true, false_and, and_false]
    have e95 : up (fun j k => if j = 96 ∧ k < 13 then -1 else up X 95 b (X 95 b + 1) j k : xT) 96 0 x 95 b = X 95 b + 1 := by
      rw [up_ne (by omega)]
      show (if 95 = 96 ∧ b < 13 then -1 else up X 95 b (X 95 b + 1) 95 b) = _
      rw [if_neg (by omega), up_eq]
    rw [e95]
    rfl
  have hR3 : Rel C b (up D 14 10 (D 14 10 + 1)) (nodeX (up X 95 b (X 95 b + 1)) x (X 95 b + 1) y z v) := Rel_95 hR0 (fun k' => nodeX_o (by decide))
  have hM3 : MCfg C (nodeX (up X 95 b (X 95 b + 1)) x (X 95 b + 1) y z v) := MCfg_90 hM (fun k' => by rw [nodeX_o (by decide), up_ne (by omega)])
  obtain ⟨n0, n1, n2, n3, n4⟩ := @nodeX_96 (up X 95 b (X 95 b + 1)) x (X 95 b + 1) y z v
  have hno : ∀ j k, j ≠ 96 → (j ≠ 95 ∨ k ≠ b) → nodeX (up X 95 b (X 95 b + 1)) x (X 95 b + 1) y z v j k = X j k := fun j k h1 h2 => by rw [nodeX_o h1, up_ne (by omega)]
  have hseq : X 95 b + 1 = up D 14 10 (D 14 10 + 1) 14 10 := by rw [up_eq, hR.1]
  generalize nodeX (up X 95 b (X 95 b + 1)) x (X 95 b + 1) y z v = X3 at *
  have hsl := fun s => putT_slot (nt := nt) (s := s) h0.1
  obtain ⟨X', g1, g2, g3, g4, g5, g6, g7, g8⟩ := t_put (fu := fu) (M := M) h hM3 hb hB hR3 h0 he0 hf nt
  have hFm : Fm b X X' := by
    refine ⟨fun j k a1 a2 a3 a4 a5 => by rw [g3.1 j k a1 a2 a3 a4 a5, hno j k a5 (Or.inl a4)], fun k hk => by rw [g3.2.1 k hk, hno 95 k (by decide) (by omega)], fun b' hb' hne e => ?_⟩
    rw [g4] at e
    exact absurd e (neg_i3 (by omega))
  have hPc : Pc nt b D (putT nt (up D 14 10 (D 14 10 + 1)) (C 0 0) (C 0 1)).2 X X' := by
    obtain ⟨c, a1, b1⟩ := g6
    exact ⟨c, by rw [a1, hno 95 _ (by decide) (Or.inr (by omega))], fun hn P hP hl => b1 hn P (by rw [up_ne (by omega)]; exact hP) hl⟩
  rw [hrun, g1, Option.bind_some, bz_x, gd_t]
  have e2 : up D 14 10 (D 14 10 + 1) 14 2 = D 14 2 := up_ne (by omega)
  unfold putNewT
  by_cases hc : up D 14 10 (D 14 10 + 1) 14 2 = 1
  · obtain ⟨T, e, hRT⟩ := g7 hc
    rw [e] at hPc ⊢
    refine ⟨X', ?_, hRT, g2, hFm, g4, hPc⟩
    simp only
    rw [decide_eq_true hc]; rfl
  · obtain ⟨s, T, e, hRT⟩ := g8 hc
    have hs' := hsl s (by rw [e])
    rw [e] at hPc hs' ⊢
    have h1 : T 14 10 = up D 14 10 (D 14 10 + 1) 14 10 := hs'.2.2 14 10 (by omega)
    simp only at hPc ⊢
    refine ⟨X', ?_, ?_, g2, hFm, g4, Pc_tr hPc (Pc_rf rfl (fillT_lo (by omega)))⟩
    · rw [decide_eq_false hc]; rfl
    · refine hRT _ (fun j k hj => fillT_lo (by omega)) (fun j t ht h1 h2 => fillT_lo (by omega)) (fun j t n ht hn hj => fillT_lo (by omega)) ?_ (fun _ => ⟨?_, ?_, ?_, ?_⟩) (fun e => ?_)
      · rw [fillT_2, n0]
      · rw [fillT_3, n1, h1, hseq]
      · rw [fillT_4, n2]
      · rw [fillT_5, n3]
      · rw [fillT_6, n4]
      · rw [fillT_2] at e; exact absurd e hx
end
