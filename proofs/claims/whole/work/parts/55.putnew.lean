/-! ===== a new node of a file ===== -/
/-- what a deed on section b leaves alone -/
def Fm (b : Nat) (X X' : xT) : Prop := (∀ j k, (j ≠ 0 ∨ k < 20 ∨ 22 < k) → j ≠ 93 → j ≠ 94 → j ≠ 95 → j ≠ 96 → X' j k = X j k) ∧ (∀ k, k < b ∨ b + 502 ≤ k → X' 95 k = X 95 k) ∧
  ∀ b', b' ≤ 2140 → b' ≠ b → X' 0 22 = i3 b' → X 0 22 = i3 b' ∧ X' 0 20 = X 0 20 ∧ X' 0 21 = X 0 21
section
variable {M : xM} {D E X Y Z X' : xT} {C : xC} {R N : Nat → Int32} {fu b d L s o t k n m i j p q f l w nb nw a : Nat} {x y z v u : Int32} {nt : Bool}
theorem Fm_rf : Fm b X X := ⟨fun _ _ _ _ _ _ _ => rfl, fun _ _ => rfl, fun _ _ _ h => ⟨h, rfl, rfl⟩⟩
theorem Fm_tr (h1 : Fm b X Y) (h2 : Fm b Y Z) : Fm b X Z := ⟨fun j k a b c d e => (h2.1 j k a b c d e).trans (h1.1 j k a b c d e), fun k hk => (h2.2.1 k hk).trans (h1.2.1 k hk), fun b' hb hne e => by
  have q := h2.2.2 b' hb hne e
  have r := h1.2.2 b' hb hne q.1
  exact ⟨r.1, q.2.1.trans r.2.1, q.2.2.trans r.2.2⟩⟩
theorem neg_i3 (h : a < 2147483648) : ¬ ((-1 : Int32) = i3 a) := fun e => (i3_nn h).mp e.symm
theorem Fm_sim (hb : b ≤ 2140) (h : PutSim C b D X X') : Fm b X X' := ⟨fun j k h1 h2 h3 h4 h5 => h.2.1 j k h4 (by omega), h.2.2.1, fun b' hb' hne e => by
  rw [h.1] at e
  exact absurd e (neg_i3 (by omega))⟩
theorem e16 : i3 b + 0 = i3 b := i3_add b 0
theorem Rel_last (hR : Rel C b D X) : Rel C b (up D 14 10 (D 14 10 + 1)) (up X 95 b (X 95 b + 1)) := by
  obtain ⟨g0, g1, g2, g3, g4, g5, g6, g7, g8, g9⟩ := hR
  have e : ∀ j k', (j ≠ 14 ∨ k' ≠ 10) → up D 14 10 (D 14 10 + 1) j k' = D j k' := fun j k' h => up_ne (by omega)
  have r : ∀ k', k' ≠ b → up X 95 b (X 95 b + 1) 95 k' = X 95 k' := fun k' h => up_ne (by omega)
  refine ⟨by rw [up_eq, up_eq, g0], ?_, ?_, ?_, ?_, ?_, ?_, fun k' hk' => ?_, fun k' hk' => ?_, fun t ht => ?_⟩
  · rw [r _ (by omega), e _ _ (by omega)]; exact g1
  · rw [r _ (by omega), e _ _ (by omega)]; exact g2
  · rw [r _ (by omega), e _ _ (by omega)]; exact g3
  · rw [r _ (by omega)]
    have : (up D 14 10 (D 14 10 + 1)) 11 = D 11 := funext fun k' => e _ _ (by omega)
    rw [this]; exact g4
  · rw [r _ (by omega)]
    have : (up D 14 10 (D 14 10 + 1)) 12 = D 12 := funext fun k' => e _ _ (by omega)
    rw [this]; exact g5
  · rw [r _ (by omega), e _ _ (by omega)]; exact g6
  · rw [r _ (by omega), e _ _ (by omega)]; exact g7 k' hk'
  · rw [r _ (by omega), e _ _ (by omega)]; exact g8 k' hk'
  · rw [e 2 t (by omega), e 3 t (by omega), e 4 t (by omega), e 5 t (by omega), e 6 t (by omega), r _ (by omega), r _ (by omega), r _ (by omega), r _ (by omega), r _ (by omega)]
    refine ⟨(g9 t ht).1, (g9 t ht).2.1, fun hk n hn hl => ?_⟩
    rw [r _ (by omega), r _ (by omega), e 7 _ (by omega), e 8 _ (by omega)]
    exact (g9 t ht).2.2 hk n hn hl
def nodeX (X : xT) (k0 k1 k2 k3 k4 : Int32) : xT := up (up (up (up (up (fun j k => if j = 96 ∧ k < 13 then -1 else X j k) 96 0 k0) 96 1 k1) 96 2 k2) 96 3 k3) 96 4 k4
theorem nodeX_o {k0 k1 k2 k3 k4 : Int32} (h : j ≠ 96) : nodeX X k0 k1 k2 k3 k4 j k = X j k := by
  unfold nodeX
  rw [up_ne (by omega), up_ne (by omega), up_ne (by omega), up_ne (by omega), up_ne (by omega)]
  exact if_neg (by omega)
theorem t_clrNode (h : Lay M) (hf : 100 < fu) {k0 f0 p0 v0 b0 : Int32} : L_X12_putsNew_15 fu fu 0 b0 k0 f0 p0 v0 0 (mmb X M) = L_X12_putsNew_15 fu (fu - 13) 0 b0 k0 f0 p0 v0 (i3 13) (mmb (fun j k => if j = 96 ∧ k < 13 then -1 else X j k) M) := by
  have key : ∀ m i, i + m = 13 → L_X12_putsNew_15 fu (fu - 13 + m) 0 b0 k0 f0 p0 v0 (i3 i) (mmb (fun j k => if j = 96 ∧ k < i then -1 else X j k) M) = L_X12_putsNew_15 fu (fu - 13) 0 b0 k0 f0 p0 v0 (i3 13) (mmb (fun j k => if j = 96 ∧ k < 13 then -1 else X j k) M) := by
    intro m
    induction m with
    | zero => intro i hi; have : i = 13 := by omega
              subst this; rfl
    | succ m ih =>
      intro i hi
      rw [← ih (i + 1) (by omega)]
      show L_X12_putsNew_15 fu (fu - 13 + m + 1) 0 b0 k0 f0 p0 v0 (i3 i) _ = _
      conv => lhs; unfold L_X12_putsNew_15
      simp (disch := first | assumption | omega) only [l12_0_1, l12_0_4, l12_0_5, l12_0_6, l12_0_9, l12_0_10, l12_0_11, l12_0_13, l12_0_14, l12_0_15, l12_0_16, l12_0_17, l12_0_18, l12_0_19, l12_0_23, l12_0_24, l12_0_25, l12_0_27, n20_83, n20_84, n20_85, n20_86, n20_87, n20_88, n20_89, n20_90, n20_91, n20_92, n20_93, n20_94, n20_95, n20_96, n20_97, n20_98, n21_2, n21_3, n21_4, n21_5, n21_6, n22_20, m_0, m_1, m_87, m_88, m_89, m_90, m_91, m_92, m_93, m_94, m_95, m_96, m_97, m_98, p_0, p_1, p_87, p_88, p_89, p_90, p_91, p_92, p_93, p_94, p_95, p_96, p_97, p_98, gR_mmb, gN_mmb, gL_mmb, i3_add1, i3_add, i3_mul, i3_addl, i3_mull, i3_ladd, i3_lmul, i3_div4, i3_le, i3_lt, i3_eq, i3_lel, i3_lle, i3_ltl, i3_llt, i3_eql, i3_leq, i3_nl, i3_0l, i3_nn, n1_lt, n1_le, xi_i3, xin_i3, xi_lit, xin_lit, xb0, xb1, gd_t, nz4, Option.bind_some, gR_emb, gN_emb, gL_emb, ↓reduceIte, if_true, if_false, not_true_eq_false, not_false_eq_true, eq_self, Nat.not_lt_zero, Nat.zero_le, true_or, or_true, false_or, or_false, true_and, and_true, false_and, and_false]
      rw [if_neg (by omega)]
      congr 2
      funext j k
      rw [up_at]
      by_cases c : j = 96
      · by_cases c2 : k = i
        · simp [c, c2]
        · have q : (k < i + 1) = (k < i) := by apply propext; omega
          simp [c, c2, q]
      · simp [c]
  have := key 13 0 rfl
  rw [show fu - 13 + 13 = fu by omega] at this
  have e0 : (fun j k => if j = 96 ∧ k < 0 then -1 else X j k : xT) = X := by funext j k; simp
  rw [e0] at this
  exact this
theorem Inv_fillNew (hB : CB C) (h0 : Inv C L D) (hPo : PutOf C D E k) (hSp : Spot C D k l) (hh : ∀ k', k' < C 0 0 → D 15 4 = i3 k' → k' = k ∨ D 1 k' = 0) (hs : k * C 0 1 + (C 0 1 - l) = s) (hst : s < tot C) (hs0 : D 2 s = 0)
    (hOk : Ok (C 0 0) (C 0 1) E) (hls : lsN D = m + 1 ∧ D 14 10 = i3 (m + 1)) (hsq : ∀ t, t < tot C → isN D t → sq D t ≤ m) (hmp : ∀ a, a < 20 → xi (D 9 a) ≤ m)
    (hk : (x = 1 ∧ ∃ p' v', f < C 0 3 ∧ p' < C 2 f ∧ v' ≤ 255 ∧ y = i3 p' ∧ z = i3 v') ∨ (x = 2 ∧ f < C 0 3 ∧ y = -1 ∧ z = -1)) : Inv C L (fillT E s x (E 14 10) (i3 f) y z) := by
  obtain ⟨hO, hA, hN, hS, hM, hC, hOo, hIB⟩ := h0
  have hPo' := hPo
  obtain ⟨f1, f2, f3, f4, f5, f6, f7⟩ := hPo
  have hLm : m + 1 < 2147483648 := by have := hA.2.1; have := hA.2.2.1; omega
  have hq : E 14 10 = i3 (m + 1) := by rw [f1 _ _ (by omega)]; exact hls.2
  have h6 := hB.2.2.2.1
  have fl : ∀ j t, (j < 2 ∨ 6 < j ∨ t ≠ s) → fillT E s x (E 14 10) (i3 f) y z j t = E j t := fun j t h => fillT_lo h
  have k2 : fillT E s x (E 14 10) (i3 f) y z 2 s = x := fillT_2
  have k3 : fillT E s x (E 14 10) (i3 f) y z 3 s = i3 (m + 1) := by rw [fillT_3, hq]
  have k4 : fillT E s x (E 14 10) (i3 f) y z 4 s = i3 f := fillT_4
  have k5 : fillT E s x (E 14 10) (i3 f) y z 5 s = y := fillT_5
  have k6 : fillT E s x (E 14 10) (i3 f) y z 6 s = z := fillT_6
  have hOk2 : Ok (C 0 0) (C 0 1) (fillT E s x (E 14 10) (i3 f) y z) := by
    refine Ok_fill hOk ⟨fun e => ?_, fun _ => ⟨f, ?_, rfl⟩, fun e => ?_⟩
    · rcases hk with ⟨-, p', v', g1, g2, g3, g4, g5⟩ | ⟨g1, -⟩
      · have := (hB.2.2.2.2.2 f g1).2.2
        exact ⟨f, p', by omega, by omega, rfl, g4⟩
      · rw [g1] at e; exact absurd e (by decide)
    · rcases hk with ⟨-, p', v', g1, -⟩ | ⟨-, g1, -⟩ <;> omega
    · rcases hk with ⟨g1, -⟩ | ⟨g1, -⟩ <;> rw [g1] at e <;> exact absurd e (by decide)
  generalize fillT E s x (E 14 10) (i3 f) y z = T at *
  have hOff : Off D T s := ⟨fun t j ht h1 h2 => by rw [fl _ _ (by omega), f1 _ _ (by omega)], fun t n ht hn => ⟨by rw [fl _ _ (by omega), f1 _ _ (by omega)], by rw [fl _ _ (by omega), f1 _ _ (by omega)]⟩,
    by rw [fl _ _ (by omega), f1 _ _ (by omega)], by rw [fl _ _ (by omega), f1 _ _ (by omega)], by rw [fl _ _ (by omega), f1 _ _ (by omega)]⟩
  have hsT : sq T s = m + 1 := by unfold sq; rw [k3, xi_i3 hLm]
  have hn3 : x ≠ 3 := by rcases hk with ⟨g1, -⟩ | ⟨g1, -⟩ <;> rw [g1] <;> decide
  have hNode : NodeOK C T s := by
    refine Or.inr (Or.inr ⟨by rw [k3, hsT], by omega, by rw [hsT, off_ls hOff]; omega, ?_⟩)
    rw [k2, k4, k5, k6]
    rcases hk with ⟨g0, p', v', g1, g2, g3, g4, g5⟩ | ⟨g0, g1, g2, g3⟩
    · exact Or.inl ⟨g0, f, p', v', g1, g2, g3, rfl, g4, g5⟩
    · exact Or.inr (Or.inl ⟨g0, g2, g3, f, g1, rfl⟩)
  refine ⟨hOk2, InA_off hOff hA, InN_add hOff hN hNode, InS_fresh hOff hN hS k3 hLm (fun t ht hn => by have := hsq t ht hn; omega), InM_fresh hOff (fun a ha => by rw [fl _ _ (by omega), f1 _ _ (by omega)]) (fun _ a ha e => ?_) hM, InC_fresh hOff hs0 (by rw [k2]; exact hn3) hN hst (fun _ => ⟨m + 1, k3, hLm, fun t ht hn => by have := hsq t ht hn; omega⟩) hC, ?_, ?_⟩
  · exfalso
    rw [k3, fl _ _ (by omega), f1 _ _ (by omega), (hM a ha).1] at e
    have := (i3_eq (xi_lt _) hLm).mp e
    have := hmp a ha
    omega
  · have := InO_put hPo' hOo
    obtain ⟨o1, o2, o3⟩ := this
    exact ⟨by rw [fl _ _ (by omega)]; exact o1, by rw [fl _ _ (by omega)]; exact o2, fun f hf => by rw [fl _ _ (by omega), fl _ _ (by omega)]; exact o3 f hf⟩
  · refine InB_place hB hIB hSp hh (by rw [fl _ _ (by omega)]; exact f4) (by rw [fl _ _ (by omega)]; exact f5) (fun k' hk' => by rw [fl _ _ (by omega)]; exact f6 k' hk') (by rw [fl _ _ (by omega)]; exact f7) ?_ (fun t ht hts => ?_)
    · rw [hs, k2]; rcases hk with ⟨g1, -⟩ | ⟨g1, -⟩ <;> rw [g1] <;> decide
    · rw [hs] at hts; exact hOff.1 t 2 hts (by omega) (by omega)
theorem Inv_putNew (hB : CB C) (hI : Inv C L D) (hL : L + 1 < 1000000) (he : ¬ D 15 3 = 0) (hk : (x = 1 ∧ ∃ p' v', f < C 0 3 ∧ p' < C 2 f ∧ v' ≤ 255 ∧ y = i3 p' ∧ z = i3 v') ∨ (x = 2 ∧ f < C 0 3 ∧ y = -1 ∧ z = -1)) :
    Inv C (L + 1) (putNewT nt D (C 0 0) (C 0 1) x (i3 f) y z).2 := by
  have h0 := Inv_last hI hL
  have hls := ls_up hI.2.1
  have he0 : ¬ up D 14 10 (D 14 10 + 1) 15 3 = 0 := by rw [up_ne (by omega)]; exact he
  have hsq : ∀ t, t < tot C → isN (up D 14 10 (D 14 10 + 1)) t → sq (up D 14 10 (D 14 10 + 1)) t ≤ lsN D := by
    intro t ht hn
    unfold isN at hn
    rw [up_ne (by omega)] at hn
    have := (node_seq (hI.2.2.1 t ht) hn).2.2
    unfold sq at this ⊢
    rw [up_ne (by omega)]; exact this
  have hmp : ∀ a, a < 20 → xi (up D 14 10 (D 14 10 + 1) 9 a) ≤ lsN D := fun a ha => by rw [up_ne (by omega)]; exact (hI.2.2.2.2.1 a ha).2.1
  have h3 : Okd 3 (C 0 0) (C 0 1) (up D 14 10 (D 14 10 + 1)) := ⟨h0.1, fun q => absurd q (by decide)⟩
  have hP := putT_ok (nt := nt) h3
  have h6 := hB.2.2.2.1
  unfold putNewT
  generalize up D 14 10 (D 14 10 + 1) = D0 at h0 hls he0 hsq hmp h3 hP ⊢
  obtain ⟨k, l, hSp, hh, hst, hs0, hput⟩ := put_frame hB h0 he0 nt
  rcases hput with ⟨hc, e⟩ | ⟨hc, D1, e, hPo⟩
  · rw [e] at hP ⊢
    exact Inv_torn hB h0 hSp hh rfl hst hs0 hP.1.1
  · rw [e] at hP ⊢
    simp only
    generalize hs : k * C 0 1 + (C 0 1 - l) = s at hst hs0 e hP ⊢
    exact Inv_fillNew hB h0 hPo hSp hh hs hst hs0 hP.1.1 hls hsq hmp hk
end
