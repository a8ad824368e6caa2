/-! ===== a commit's step ===== -/
section
variable {M : xM} {D E X Y Z T P X' E' E'' X'' : xT} {C : xC} {R N : Nat → Int32} {fu b d L s o t k n m i j p q f l w nb nw a at' : Nat} {x y z v u : Int32} {nt : Bool}
/-- what a part that is put looks like -/
theorem part_is (hat : at' ≤ 20) : (∀ j t, (j < 2 ∨ 8 < j) → (fillPartT T s i n at').2 j t = T j t) ∧ (∀ j t, t ≠ s → 2 ≤ j → j ≤ 6 → (fillPartT T s i n at').2 j t = T j t) ∧ (∀ t m, t ≠ s → m < 4 → (fillPartT T s i n at').2 7 (t * 4 + m) = T 7 (t * 4 + m) ∧ (fillPartT T s i n at').2 8 (t * 4 + m) = T 8 (t * 4 + m)) ∧
    (fillPartT T s i n at').2 2 s = 3 ∧ (fillPartT T s i n at').2 3 s = T 14 10 ∧ (fillPartT T s i n at').2 4 s = i3 i ∧ (fillPartT T s i n at').2 5 s = i3 n ∧ ∃ c, c ≤ 4 ∧ (fillPartT T s i n at').2 6 s = i3 c ∧ ∀ m, m < c → ∃ z, z < 20 ∧ (fillPartT T s i n at').2 7 (s * 4 + m) = i3 z ∧ (fillPartT T s i n at').2 8 (s * 4 + m) = T 9 z ∧ keptT T z = true := by
  have sp := filR_spec s (20 - at') 0 at' T (by omega) (by omega)
  have sp2 := filR_spec2 s (20 - at') 0 at' T (by omega) (by omega)
  unfold fillPartT
  generalize filR s (20 - at') 0 at' T = y at sp sp2 ⊢
  obtain ⟨h1, h2, h3, h4, h5, h6⟩ := sp
  refine ⟨fun j t hj => ?_, fun j t ht h1' h2' => ?_, fun t m ht hm => ⟨?_, ?_⟩, (show fillT y.2.2 s 3 (y.2.2 14 10) (i3 i) (i3 n) (i3 y.1) 2 s = 3 from fillT_2), ?_, (show fillT y.2.2 s 3 (y.2.2 14 10) (i3 i) (i3 n) (i3 y.1) 4 s = i3 i from fillT_4), (show fillT y.2.2 s 3 (y.2.2 14 10) (i3 i) (i3 n) (i3 y.1) 5 s = i3 n from fillT_5), y.1, h2, (show fillT y.2.2 s 3 (y.2.2 14 10) (i3 i) (i3 n) (i3 y.1) 6 s = i3 y.1 from fillT_6), fun m hm => ?_⟩
  · show fillT y.2.2 s 3 (y.2.2 14 10) (i3 i) (i3 n) (i3 y.1) j t = _
    rw [fillT_lo (by omega), h4 j t (by omega)]
  · show fillT y.2.2 s 3 (y.2.2 14 10) (i3 i) (i3 n) (i3 y.1) j t = _
    rw [fillT_lo (by omega), h4 j t (by omega)]
  · show fillT y.2.2 s 3 (y.2.2 14 10) (i3 i) (i3 n) (i3 y.1) 7 (t * 4 + m) = _
    rw [fillT_lo (by omega), h5 7 _ (by omega)]
  · show fillT y.2.2 s 3 (y.2.2 14 10) (i3 i) (i3 n) (i3 y.1) 8 (t * 4 + m) = _
    rw [fillT_lo (by omega), h5 8 _ (by omega)]
  · show fillT y.2.2 s 3 (y.2.2 14 10) (i3 i) (i3 n) (i3 y.1) 3 s = _
    rw [fillT_3, h4 14 10 (by omega)]
  · obtain ⟨z, g1, g2, g3, g4⟩ := sp2 m (Nat.zero_le _) hm
    refine ⟨z, g1, ?_, ?_, g4⟩
    · show fillT y.2.2 s 3 (y.2.2 14 10) (i3 i) (i3 n) (i3 y.1) 7 (s * 4 + m) = _
      rw [fillT_lo (by omega), g2]
    · show fillT y.2.2 s 3 (y.2.2 14 10) (i3 i) (i3 n) (i3 y.1) 8 (s * 4 + m) = _
      rw [fillT_lo (by omega), g3]
theorem CMI_place (hB : CB C) (h : CMI C L D E n i) (hi : i < n) (hn : n ≤ 6) (hL : L + n < 1000000) (h0 : Inv C (L + i + 1) (up E 14 10 (E 14 10 + 1))) (hPo : PutOf C (up E 14 10 (E 14 10 + 1)) T k) (hSp : Spot C (up E 14 10 (E 14 10 + 1)) k l)
    (hh : ∀ k', k' < C 0 0 → up E 14 10 (E 14 10 + 1) 15 4 = i3 k' → k' = k ∨ up E 14 10 (E 14 10 + 1) 1 k' = 0) (hs : k * C 0 1 + (C 0 1 - l) = s) (hst : s < tot C) (hs0 : E 2 s = 0) (hat : at' ≤ 20)
    (hOk : Ok (C 0 0) (C 0 1) (fillPartT T s i n at').2) : CMI C L D (fillPartT T s i n at').2 n (i + 1) := by
  have hIE := CMI_inv h hi hn
  have hls := ls_up hIE.2.1
  obtain ⟨-, c1, c2, c3, c4, c5, c6, c7, c8, c9, e0, r1, r2, r3⟩ := h
  obtain ⟨hOE, hAE, hNE, hSE, hME, hCE, hOoE, hIBE⟩ := hIE
  obtain ⟨hO0, hA0, hN0, hS0, hM0, hC0, hOo0, hIB0⟩ := h0
  obtain ⟨q1, q2, q3, k2, k3, k4, k5, cc, hcc, k6, kE⟩ := part_is (T := T) (s := s) (i := i) (n := n) hat
  obtain ⟨f1, f2, f3, f4, f5, f6, f7⟩ := id hPo
  have u : ∀ j t, (j ≠ 14 ∨ t ≠ 10) → up E 14 10 (E 14 10 + 1) j t = E j t := fun j t h => up_ne (by omega)
  generalize (fillPartT T s i n at').2 = P at *
  have hOff0 : Off (up E 14 10 (E 14 10 + 1)) P s := ⟨fun t j ht h1 h2 => by rw [q2 j t ht h1 h2, f1 _ _ (by omega)], fun t m ht hm => ⟨by rw [(q3 t m ht hm).1, f1 _ _ (by omega)], by rw [(q3 t m ht hm).2, f1 _ _ (by omega)]⟩, by rw [q1 _ _ (by omega), f1 _ _ (by omega)], by rw [q1 _ _ (by omega), f1 _ _ (by omega)], by rw [q1 _ _ (by omega), f1 _ _ (by omega)]⟩
  have p9 : ∀ a, P 9 a = E 9 a := fun a => by rw [q1 _ _ (by omega), f1 _ _ (by omega), u _ _ (by omega)]
  have p12 : ∀ a, P 12 a = E 12 a := fun a => by rw [q1 _ _ (by omega), f1 _ _ (by omega), u _ _ (by omega)]
  have pf : ∀ t j, t ≠ s → 2 ≤ j → j ≤ 6 → P j t = E j t := fun t j ht h1 h2 => by rw [hOff0.1 t j ht h1 h2, u _ _ (by omega)]
  have pe : ∀ t m, t ≠ s → m < 4 → P 7 (t * 4 + m) = E 7 (t * 4 + m) ∧ P 8 (t * 4 + m) = E 8 (t * 4 + m) := fun t m ht hm => ⟨by rw [(hOff0.2.1 t m ht hm).1, u _ _ (by omega)], by rw [(hOff0.2.1 t m ht hm).2, u _ _ (by omega)]⟩
  have psq : ∀ t, t ≠ s → sq P t = sq E t := fun t ht => by unfold sq; rw [pf t 3 ht (by omega) (by omega)]
  have ppg : ∀ t, t ≠ s → pgT P t = pgT E t := fun t ht => by unfold pgT; rw [pf t 4 ht (by omega) (by omega), pf t 5 ht (by omega) (by omega)]
  have hbs : bsN P = bsN E := by rw [off_bs hOff0]; unfold bsN; rw [u _ _ (by omega)]
  have hwp : wpN P = wpN E := by rw [off_wp hOff0]; unfold wpN; rw [u _ _ (by omega)]
  have hlP : lsN P = lsN D + (i + 1) := by rw [off_ls hOff0, hls.1, c7]; omega
  have hlb : lsN D + i + 1 < 2147483648 := by have := hA0.2.1; have := hA0.2.2.1; rw [hls.1] at *; omega
  have s3 : P 3 s = i3 (lsN D + i + 1) := by rw [k3, f1 _ _ (by omega), hls.2, c7]
  have ssq : sq P s = lsN D + i + 1 := by unfold sq; rw [s3, xi_i3 hlb]
  have kE' : ∀ m, m < cc → ∃ z, z < 20 ∧ P 7 (s * 4 + m) = i3 z ∧ P 8 (s * 4 + m) = E 9 z ∧ E 9 z ≠ 0 := fun m hm => by
    obtain ⟨z, g1, g2, g3, g4⟩ := kE m hm
    have e9 : T 9 z = E 9 z := by rw [f1 _ _ (by omega), u _ _ (by omega)]
    refine ⟨z, g1, g2, by rw [g3, e9], ?_⟩
    unfold keptT at g4
    simp only [Bool.and_eq_true, decide_eq_true_eq] at g4
    rw [← e9]; exact g4.1
  have lim : ∀ t, t < tot C → isN E t → sq E t ≤ lsN D + i := fun t ht hn => by rw [← c7]; exact (node_seq (hNE t ht) hn).2.2
  have lt6 : ∀ m, m < 4 → i3 m < P 6 s → m < cc := fun m hm hl => by rw [k6] at hl; exact (i3_lt (by omega) (by omega)).mp hl
  have hNode : NodeOK C P s := by
    refine Or.inr (Or.inr ⟨by rw [s3, ssq], by omega, by rw [ssq, hlP]; omega, Or.inr (Or.inr ⟨k2, i, n, cc, hi, hn, hcc, by omega, k4, k5, k6, fun m hm => ?_⟩)⟩)
    obtain ⟨z, g1, g2, g3, g4⟩ := kE' m hm
    obtain ⟨m1, m2, -⟩ := hME z g1
    have : xi (E 9 z) ≠ 0 := fun q => g4 (by rw [m1, q]; rfl)
    exact ⟨z, xi (E 9 z), g1, g2, by rw [g3]; exact m1, by omega, by rw [ssq]; omega⟩
  have hNP : InN C P := InN_add hOff0 hN0 hNode
  have nots : ∀ t, P 2 t = 3 → sq P t ≤ lsN D + i → t ≠ s := fun t _ hl q => by rw [q, ssq] at hl; omega
  refine ⟨⟨hOk, InA_off hOff0 hA0, hNP, ?_, ?_, ?_, ?_⟩, fun p hp => ?_, fun s' hs' hk' hb' hl' => ?_, fun t1 t2 i1 j1 h1 h2 g1 g2 he hi1 hj1 l1 l2 hp => ?_, fun t1 t2 i1 h1 h2 g1 g2 hi1 l1 he => ?_, fun s' hs' hk' hl' => ?_, fun j hj => ?_, hlP, fun a => by rw [p9]; exact c8 a, fun a => by rw [p12]; exact c9 a, e0 - 1, ?_, by omega, by omega⟩
  · refine InS_fresh hOff0 hN0 hS0 s3 hlb (fun t ht hn q => ?_)
    have hn' : isN E t := by unfold isN at hn ⊢; rw [u _ _ (by omega)] at hn; exact hn
    have := lim t ht hn'
    unfold sq at q this
    rw [u _ _ (by omega)] at q
    omega
  · exact InM_fresh hOff0 (fun a ha => by rw [p9, u _ _ (by omega)]) (fun e => by rw [k2] at e; exact absurd e (by decide)) hM0
  · obtain ⟨o1, o2, o3⟩ := InO_put hPo hOo0
    exact ⟨by rw [q1 _ _ (by omega)]; exact o1, by rw [q1 _ _ (by omega)]; exact o2, fun f hf => by rw [q1 _ _ (by omega), q1 _ _ (by omega)]; exact o3 f hf⟩
  · refine InB_place hB hIB0 hSp hh (by rw [q1 _ _ (by omega)]; exact f4) (by rw [q1 _ _ (by omega)]; exact f5) (fun k' hk' => by rw [q1 _ _ (by omega)]; exact f6 k' hk') (by rw [q1 _ _ (by omega)]; exact f7) ?_ (fun t ht hts => ?_)
    · rw [hs, k2]; decide
    · rw [hs] at hts; exact hOff0.1 t 2 hts (by omega) (by omega)
  · rw [hwp] at hp ⊢
    rw [hbs]
    obtain ⟨t, ht, t1, t2, t3, t4⟩ := c1 p hp
    have hts : t ≠ s := fun q => by rw [q, hs0] at t1; exact absurd t1 (by decide)
    exact ⟨t, ht, by rw [pf t 2 hts (by omega) (by omega)]; exact t1, by rw [psq t hts]; exact t2, by rw [pf t 4 hts (by omega) (by omega)]; exact t3, by rw [pf t 5 hts (by omega) (by omega)]; exact t4⟩
  · have hts := nots s' hk' (by omega)
    rw [pf s' 2 hts (by omega) (by omega)] at hk'
    rw [hbs, psq s' hts] at hb'
    rw [psq s' hts] at hl'
    obtain ⟨p, hp, hno⟩ := c2 s' hs' hk' hb' hl'
    rw [pf s' 5 hts (by omega) (by omega)]
    refine ⟨p, hp, fun t ht r => ?_⟩
    obtain ⟨g1, g2, g3, p', n', c', g4, g5, g6, g7, g8, g9, g10, g11⟩ := idx_node hNE hs' hk'
    by_cases e : t = s
    · rw [e, ssq, psq s' hts, pf s' 4 hts (by omega) (by omega), g8, xi_i3 (by omega), k4] at r
      rw [g9, xi_i3 (by omega)] at hp
      have := (i3_eq (by omega) (by omega)).mp r.2.2.1
      omega
    · rw [pf t 2 e (by omega) (by omega), psq t e, psq s' hts, pf t 4 e (by omega) (by omega), pf s' 4 hts (by omega) (by omega), pf t 5 e (by omega) (by omega)] at r
      exact hno t ht r
  · -- entries of nodes of one commit
    have new : ∀ t j1, t < tot C → P 2 t = 3 → lsN D < sq P t → j1 < 4 → i3 j1 < P 6 t → ∃ z, z < 20 ∧ P 7 (t * 4 + j1) = i3 z ∧ P 8 (t * 4 + j1) = E 9 z := by
      intro t j1 ht hk hl hj hlj
      by_cases e : t = s
      · subst e
        obtain ⟨z, w1, w2, w3, -⟩ := kE' j1 (lt6 j1 hj hlj)
        exact ⟨z, w1, w2, w3⟩
      · rw [pf t 2 e (by omega) (by omega)] at hk
        rw [psq t e] at hl
        rw [pf t 6 e (by omega) (by omega)] at hlj
        rw [(pe t j1 e hj).1, (pe t j1 e hj).2]
        exact (c5 t ht hk hl).2.2.2 j1 hj hlj
    have both : lsN D < sq P t1 → lsN D < sq P t2 → P 8 (t1 * 4 + i1) = P 8 (t2 * 4 + j1) := fun n1 n2 => by
      obtain ⟨z1, w1, w2, w3⟩ := new t1 i1 h1 g1 n1 hi1 l1
      obtain ⟨z2, y1, y2, y3⟩ := new t2 j1 h2 g2 n2 hj1 l2
      rw [w2, y2] at hp
      have := (i3_eq (by omega) (by omega)).mp hp
      rw [w3, y3, this]
    by_cases e1 : t1 = s
    · refine both (by rw [e1, ssq]; omega) ?_
      obtain ⟨-, -, -, p', n', c', w1, w2, w3, w4, w5, -⟩ := idx_node hNP h2 g2
      rw [e1, ssq, k4, xi_i3 (by omega), w5, xi_i3 (by omega)] at he
      omega
    · by_cases e2 : t2 = s
      · refine both ?_ (by rw [e2, ssq]; omega)
        obtain ⟨-, -, -, p', n', c', w1, w2, w3, w4, w5, -⟩ := idx_node hNP h1 g1
        rw [e2, ssq, k4, xi_i3 (by omega), w5, xi_i3 (by omega)] at he
        omega
      · rw [pf t1 2 e1 (by omega) (by omega)] at g1
        rw [pf t2 2 e2 (by omega) (by omega)] at g2
        rw [psq t1 e1, psq t2 e2, pf t1 4 e1 (by omega) (by omega), pf t2 4 e2 (by omega) (by omega)] at he
        rw [pf t1 6 e1 (by omega) (by omega)] at l1
        rw [pf t2 6 e2 (by omega) (by omega)] at l2
        rw [(pe t1 i1 e1 hi1).1, (pe t2 j1 e2 hj1).1] at hp
        rw [(pe t1 i1 e1 hi1).2, (pe t2 j1 e2 hj1).2]
        exact c3 t1 t2 i1 j1 h1 h2 g1 g2 he hi1 hj1 l1 l2 hp
  · have e2 : t2 ≠ s := fun q => by rw [q, k2] at g2; exact absurd g2 (by decide)
    rw [pf t2 2 e2 (by omega) (by omega)] at g2
    rw [pf t2 3 e2 (by omega) (by omega)] at he
    rw [ppg t2 e2]
    by_cases e1 : t1 = s
    · subst e1
      obtain ⟨z, w1, w2, w3, -⟩ := kE' i1 (lt6 i1 hi1 l1)
      rw [w3] at he
      rw [w2, xi_i3 (by omega)]
      exact (hME z w1).2.2 t2 h2 g2 he.symm
    · rw [pf t1 2 e1 (by omega) (by omega)] at g1
      rw [pf t1 6 e1 (by omega) (by omega)] at l1
      rw [(pe t1 i1 e1 hi1).2] at he
      rw [(pe t1 i1 e1 hi1).1]
      exact c4 t1 t2 i1 h1 h2 g1 g2 hi1 l1 he
  · by_cases e : s' = s
    · subst e
      refine ⟨by rw [ssq]; omega, k5, by rw [ssq, k4]; congr 1; omega, fun j hj hlj => ?_⟩
      obtain ⟨z, w1, w2, w3, -⟩ := kE' j (lt6 j hj hlj)
      exact ⟨z, w1, w2, by rw [w3, p9]⟩
    · rw [pf s' 2 e (by omega) (by omega)] at hk'
      rw [psq s' e] at hl' ⊢
      rw [pf s' 5 e (by omega) (by omega), pf s' 4 e (by omega) (by omega), pf s' 6 e (by omega) (by omega)]
      obtain ⟨w1, w2, w3, w4⟩ := c5 s' hs' hk' hl'
      refine ⟨by omega, w2, w3, fun j hj hlj => ?_⟩
      rw [(pe s' j e hj).1, (pe s' j e hj).2]
      obtain ⟨z, v1, v2, v3⟩ := w4 j hj hlj
      exact ⟨z, v1, v2, by rw [v3, p9]⟩
  · rcases Nat.lt_or_ge j i with c | c
    · obtain ⟨t, ht, t1, t2, t3, t4⟩ := c6 j c
      have hts : t ≠ s := fun q => by rw [q, hs0] at t1; exact absurd t1 (by decide)
      exact ⟨t, ht, by rw [pf t 2 hts (by omega) (by omega)]; exact t1, by rw [psq t hts]; exact t2, by rw [pf t 4 hts (by omega) (by omega)]; exact t3, by rw [pf t 5 hts (by omega) (by omega)]; exact t4⟩
    · have e : j = i := by omega
      subst e
      exact ⟨s, hst, k2, by rw [ssq]; omega, k4, k5⟩
  · rw [q1 _ _ (by omega), f7, u _ _ (by omega), r1, show (1 : Int32) = i3 1 from rfl, i3_sub (by omega)]
end
