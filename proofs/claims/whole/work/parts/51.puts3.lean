/-! ===== what a put does to the relation ===== -/
section
variable {M : xM} {D E X Y Z : xT} {C : xC} {R N : Nat → Int32} {fu b d L s o t k n m i j p q f l w nb nw a : Nat} {x y z v u : Int32}
theorem putX_o {torn : Bool} (h1 : j ≠ 0 ∨ k ≠ 22) (h2 : j ≠ 95 ∨ (k ≠ b + 3 ∧ k ≠ b + 6 ∧ k ≠ b + 1 ∧ (k < b + 34 + 13 * s ∨ b + 34 + 13 * s + 13 ≤ k))) : putX X b m s torn N j k = X j k := by
  unfold putX
  rw [if_neg (by omega), if_neg (by omega), if_neg (by omega), if_neg (by omega), if_neg (by omega)]
theorem putX_row {torn : Bool} (h : n < 13) : putX X b m s torn N 95 (b + 34 + 13 * s + n) = if torn then -1 else N n := by
  unfold putX
  rw [if_neg (by omega), if_neg (by omega), if_neg (by omega), if_pos ⟨rfl, by omega, by omega⟩]
  rw [show b + 34 + 13 * s + n - (b + 34 + 13 * s) = n by omega]
theorem putX_3 {torn : Bool} : putX X b m s torn N 95 (b + 3) = if X 95 (b + 3) ≤ 0 then X 95 (b + 3) else X 95 (b + 3) - 1 := by
  unfold putX; rw [if_neg (by omega), if_pos ⟨rfl, rfl⟩]
theorem putX_6 {torn : Bool} : putX X b m s torn N 95 (b + 6) = X 95 (b + 6) + 1 := by
  unfold putX; rw [if_neg (by omega), if_neg (by omega), if_pos ⟨rfl, rfl⟩]
theorem putX_1 {torn : Bool} : putX X b m s torn N 95 (b + 1) = i3 m := by
  unfold putX; rw [if_neg (by omega), if_neg (by omega), if_neg (by omega), if_neg (by omega), if_pos ⟨rfl, rfl⟩]
theorem putX_22 {torn : Bool} : putX X b m s torn N 0 22 = -1 := by unfold putX; rw [if_pos ⟨rfl, rfl⟩]
theorem offX_o (h : j ≠ 95 ∨ ((k < b + 14 ∨ b + 34 ≤ k) ∧ k ≠ b + 2 ∧ k ≠ b + 3 ∧ k ≠ b + 4 ∧ k ≠ b + 5)) : offX X b j k = X j k := by
  unfold offX; rw [if_neg (by omega), if_neg (by omega)]
theorem bits_0 {g : Nat → Int32} (h : ∀ f, f < 5 → g f = 0) : bitsAs 0 g := ⟨0, by omega, rfl, fun f hf => by rw [h f hf, Nat.zero_div]; rfl⟩
theorem takeD_o (h : (j ≠ 15 ∨ k ≠ 4 ∧ k ≠ 3) ∧ j ≠ 1) : takeD D m j k = D j k := by
  unfold takeD; rw [up_ne (by omega), up_ne (by omega), up_ne (by omega)]
theorem takeD_4 : takeD D m 15 4 = i3 m := by unfold takeD; rw [up_ne (by omega), up_ne (by omega), up_eq]
def PutSim (C : xC) (b : Nat) (D X X' : xT) : Prop :=
  X' 0 22 = -1 ∧ (∀ j k, j ≠ 95 → (j ≠ 0 ∨ k ≠ 22) → X' j k = X j k) ∧ (∀ k, k < b ∨ b + 502 ≤ k → X' 95 k = X 95 k) ∧ X' 95 (b + 6) = X 95 (b + 6) + 1 ∧
  (∀ D1, putT false D (C 0 0) (C 0 1) = (none, D1) → Rel C b D1 X') ∧
  ∀ s D1, putT false D (C 0 0) (C 0 1) = (some s, D1) → ∀ D2 : xT, (∀ j k, j < 2 ∨ 9 ≤ j → D2 j k = D1 j k) → (∀ j t, t ≠ s → 2 ≤ j → j ≤ 6 → D2 j t = D1 j t) →
    (∀ j t n, t ≠ s → n < 4 → (j = 7 ∨ j = 8) → D2 j (t * 4 + n) = D1 j (t * 4 + n)) → D2 2 s = X 96 0 → (D2 2 s ≠ 0 → D2 3 s = X 96 1 ∧ D2 4 s = X 96 2 ∧ D2 5 s = X 96 3 ∧ D2 6 s = X 96 4) →
    (D2 2 s = 3 → ∀ n, n < 4 → i3 n < D2 6 s → D2 7 (s * 4 + n) = X 96 (5 + 2 * n) ∧ D2 8 (s * 4 + n) = X 96 (6 + 2 * n)) → Rel C b D2 X'
theorem t_puts (h : Lay M) (hM : MCfg C X) (hb : b ≤ 2140) (hB : CB C) (hR : Rel C b D X) (hO : Ok (C 0 0) (C 0 1) D) (hI : InB C D) (hc : ∃ c, c ≤ 1000 ∧ D 14 2 = i3 c) (he : ¬ D 15 3 = 0) (hf : 100 < fu) :
    ∃ X', F_X12_puts fu 0 (i3 b) (mmb X M) = some (bz (! decide (D 14 2 = 1)), mmb X' M) ∧ PutSim C b D X X' ∧ (D 14 2 = 1 ↔ (putT false D (C 0 0) (C 0 1)).1 = none) := by
  obtain ⟨k, l, hS, e1, e2⟩ := take_both h hM hb hB hR hO hI he hf
  have h36 := tot36 hB
  have h6 := hB.1
  have hBl := blk (nw := C 0 1) hS.1
  have hT : tot C = C 0 0 * C 0 1 := rfl
  have hS' := hS
  obtain ⟨s1, s2, s3, s4, s5⟩ := hS
  have hM1 : MCfg C (up X 95 (b + 1) (i3 k)) := MCfg_90 hM (fun k' => up_ne (by omega))
  have hR1 : Rel C b (up D 15 4 (i3 k)) (up X 95 (b + 1) (i3 k)) := by
    obtain ⟨g0, g1, g2, g3, g4, g5, g6, g7, g8, g9⟩ := hR
    refine ⟨?_, ?_, ?_, ?_, ?_, ?_, ?_, fun k' hk' => ?_, fun k' hk' => ?_, fun t ht => ?_⟩
    · rw [up_ne (by omega), up_ne (by omega)]; exact g0
    · rw [up_eq, up_eq]
    · rw [up_ne (by omega), up_ne (by omega)]; exact g2
    · rw [up_ne (by omega), up_ne (by omega)]; exact g3
    · rw [up_ne (by omega)]
      have : (up D 15 4 (i3 k)) 11 = D 11 := funext fun k' => up_ne (by omega)
      rw [this]; exact g4
    · rw [up_ne (by omega)]
      have : (up D 15 4 (i3 k)) 12 = D 12 := funext fun k' => up_ne (by omega)
      rw [this]; exact g5
    · rw [up_ne (by omega), up_ne (by omega)]; exact g6
    · rw [up_ne (by omega), up_ne (by omega)]; exact g7 k' hk'
    · rw [up_ne (by omega), up_ne (by omega)]; exact g8 k' hk'
    · have := g9 t ht
      refine ⟨by rw [up_ne (by omega), up_ne (by omega)]; exact this.1, fun hk => ?_, fun hk n hn hl => ?_⟩
      · rw [up_ne (by omega)] at hk
        rw [up_ne (by omega), up_ne (by omega), up_ne (by omega), up_ne (by omega), up_ne (by omega), up_ne (by omega), up_ne (by omega), up_ne (by omega)]
        exact this.2.1 hk
      · rw [up_ne (by omega)] at hk hl
        rw [up_ne (by omega), up_ne (by omega), up_ne (by omega), up_ne (by omega)]
        exact this.2.2 hk n hn hl
  have hc1 : ∃ c, c ≤ 1000 ∧ up D 15 4 (i3 k) 14 2 = i3 c := by rw [up_ne (by omega)]; exact hc
  have e3 := t_puts37 h hM1 hb hB hR1 (Spot_head hS') hc1 up_eq hf
  rw [up_ne (j := 15) (k := 4) (j' := 14) (by omega)] at e3
  have hs36 : k * C 0 1 + (C 0 1 - l) < tot C := by omega
  have eX96 : (up X 95 (b + 1) (i3 k)) 96 = X 96 := funext fun k' => up_ne (by omega)
  rw [eX96] at e3
  have eput : putT false D (C 0 0) (C 0 1) = if D 14 2 = 1 then (none, tornT (up (takeD D k) 14 11 0) (k * C 0 1 + (C 0 1 - l))) else (some (k * C 0 1 + (C 0 1 - l)), if D 14 2 ≤ 1 then up (takeD D k) 14 11 0 else up (up (takeD D k) 14 11 0) 14 2 (D 14 2 - 1)) := by
    have eA : putA false (takeD D k) (C 0 0) (C 0 1) = up (takeD D k) 14 11 0 := rfl
    have e4 : up (takeD D k) 14 11 0 14 2 = D 14 2 := by rw [up_ne (by omega), takeD_o (by omega)]
    unfold putT
    rw [e1]
    simp only [eA, e4]
  refine ⟨_, e2.trans e3, ?_, ?_⟩
  · generalize hs : k * C 0 1 + (C 0 1 - l) = s at hs36 eput ⊢
    obtain ⟨g0, g1, g2, g3, g4, g5, g6, g7, g8, g9⟩ := hR
    obtain ⟨c, hc20, hc2⟩ := hc
    by_cases cT : D 14 2 = 1
    · rw [if_pos cT] at eput ⊢
      have o1 : ∀ j k', (j ≠ 95 ∨ ((k' < b + 14 ∨ b + 34 ≤ k') ∧ k' ≠ b + 2 ∧ k' ≠ b + 3 ∧ k' ≠ b + 4 ∧ k' ≠ b + 5 ∧ k' ≠ b + 34 + 13 * s)) → offX (up (putX (up X 95 (b + 1) (i3 k)) b k s true (X 96)) 95 (b + 34 + 13 * s) 4) b j k' = putX (up X 95 (b + 1) (i3 k)) b k s true (X 96) j k' := by
        intro j k' hj
        rw [offX_o (by omega), up_ne (by omega)]
      refine ⟨?_, fun j k' hj hj2 => ?_, fun k' hk' => ?_, ?_, fun D1 hD1 => ?_, fun s' D1 hD1 => ?_⟩
      · rw [o1 _ _ (by omega)]; exact putX_22
      · rw [o1 _ _ (by omega), putX_o hj2 (by omega), up_ne (by omega)]
      · rw [o1 _ _ (by omega), putX_o (by omega) (by omega), up_ne (by omega)]
      · rw [o1 _ _ (by omega), putX_6, up_ne (by omega)]
      · rw [eput] at hD1
        injection hD1 with _ hD1
        subst hD1
        have tl : ∀ j k', (j ≠ 9 ∧ j ≠ 11 ∧ j ≠ 12 ∧ (j ≠ 14 ∨ k' ≠ 11 ∧ k' ≠ 1 ∧ k' ≠ 2) ∧ (j < 2 ∨ 6 < j ∨ k' ≠ s)) → tornT (up (takeD D k) 14 11 0) s j k' = takeD D k j k' := by
          intro j k' hj
          unfold tornT
          rw [forgetT_lo (by omega), up_ne (by omega), up_ne (by omega), fillT_lo (by omega), up_ne (by omega)]
        refine ⟨?_, ?_, ?_, ?_, ?_, ?_, ?_, fun k' hk' => ?_, fun k' hk' => ?_, fun t ht => ?_⟩
        · rw [o1 _ _ (by omega), putX_o (by omega) (by omega), up_ne (by omega), tl _ _ (by omega), takeD_o (by omega)]; exact g0
        · rw [o1 _ _ (by omega), putX_1, tl _ _ (by omega), takeD_4]
        · have : tornT (up (takeD D k) 14 11 0) s 14 1 = 0 := by unfold tornT; rw [forgetT_lo (by omega), up_ne (by omega), up_eq]
          rw [this]; unfold offX; rw [if_neg (by omega), if_pos (by omega)]
        · have : tornT (up (takeD D k) 14 11 0) s 14 2 = 0 := by unfold tornT; rw [forgetT_lo (by omega), up_eq]
          rw [this]; unfold offX; rw [if_neg (by omega), if_pos (by omega)]
        · have : offX (up (putX (up X 95 (b + 1) (i3 k)) b k s true (X 96)) 95 (b + 34 + 13 * s) 4) b 95 (b + 4) = 0 := by unfold offX; rw [if_neg (by omega), if_pos (by omega)]
          rw [this]
          exact bits_0 (fun f hf' => by unfold tornT forgetT; rw [if_neg (by omega), if_pos (by omega)])
        · have : offX (up (putX (up X 95 (b + 1) (i3 k)) b k s true (X 96)) 95 (b + 34 + 13 * s) 4) b 95 (b + 5) = 0 := by unfold offX; rw [if_neg (by omega), if_pos (by omega)]
          rw [this]
          exact bits_0 (fun f hf' => by unfold tornT forgetT; rw [if_neg (by omega), if_pos (by omega)])
        · rw [o1 _ _ (by omega), putX_o (by omega) (by omega), up_ne (by omega), tl _ _ (by omega), takeD_o (by omega)]; exact g6
        · rw [o1 _ _ (by omega), putX_o (by omega) (by omega), up_ne (by omega), tl _ _ (by omega), takeD_o (by omega)]; exact g7 k' hk'
        · have : tornT (up (takeD D k) 14 11 0) s 9 k' = 0 := by unfold tornT forgetT; rw [if_pos ⟨rfl, hk'⟩]
          rw [this]; unfold offX; rw [if_pos (by omega)]
        · by_cases hts : t = s
          · subst hts
            have k4 : tornT (up (takeD D k) 14 11 0) t 2 t = 4 := by unfold tornT; rw [forgetT_lo (by omega), up_ne (by omega), up_ne (by omega), fillT_2]
            have a3 : tornT (up (takeD D k) 14 11 0) t 3 t = -1 := by unfold tornT; rw [forgetT_lo (by omega), up_ne (by omega), up_ne (by omega), fillT_3]
            have a4 : tornT (up (takeD D k) 14 11 0) t 4 t = -1 := by unfold tornT; rw [forgetT_lo (by omega), up_ne (by omega), up_ne (by omega), fillT_4]
            have a5 : tornT (up (takeD D k) 14 11 0) t 5 t = -1 := by unfold tornT; rw [forgetT_lo (by omega), up_ne (by omega), up_ne (by omega), fillT_5]
            have a6 : tornT (up (takeD D k) 14 11 0) t 6 t = -1 := by unfold tornT; rw [forgetT_lo (by omega), up_ne (by omega), up_ne (by omega), fillT_6]
            refine ⟨?_, fun _ => ?_, fun e => absurd (k4.symm.trans e) (by decide)⟩
            · rw [k4, offX_o (by omega), up_eq]
            · rw [a3, a4, a5, a6, o1 _ _ (by omega), o1 _ _ (by omega), o1 _ _ (by omega), o1 _ _ (by omega), putX_row (by omega), putX_row (by omega), putX_row (by omega), putX_row (by omega)]
              exact ⟨rfl, rfl, rfl, rfl⟩
          · have hdis : ∀ n, n < 13 → b + 34 + 13 * t + n < b + 34 + 13 * s ∨ b + 34 + 13 * s + 13 ≤ b + 34 + 13 * t + n := fun n hn => by omega
            have rd : ∀ n, n < 13 → offX (up (putX (up X 95 (b + 1) (i3 k)) b k s true (X 96)) 95 (b + 34 + 13 * s) 4) b 95 (b + 34 + 13 * t + n) = X 95 (b + 34 + 13 * t + n) := by
              intro n hn
              have := hdis n hn
              rw [o1 _ _ (by omega), putX_o (by omega) (by omega), up_ne (by omega)]
            have td : ∀ j, 2 ≤ j → j ≤ 6 → tornT (up (takeD D k) 14 11 0) s j t = D j t := fun j h1 h2 => by rw [tl _ _ (by omega), takeD_o (by omega)]
            have te : ∀ j n, (j = 7 ∨ j = 8) → tornT (up (takeD D k) 14 11 0) s j n = D j n := fun j n h1 => by rw [tl _ _ (by omega), takeD_o (by omega)]
            rw [td 2 (by omega) (by omega), td 3 (by omega) (by omega), td 4 (by omega) (by omega), td 5 (by omega) (by omega), td 6 (by omega) (by omega)]
            refine ⟨?_, fun hk => ?_, fun hk n hn hl => ?_⟩
            · exact (rd 0 (by omega)).trans (g9 t ht).1
            · rw [rd 1 (by omega), rd 2 (by omega), rd 3 (by omega), rd 4 (by omega)]; exact (g9 t ht).2.1 hk
            · rw [rd (5 + 2 * n) (by omega), rd (6 + 2 * n) (by omega), te 7 _ (Or.inl rfl), te 8 _ (Or.inr rfl)]; exact (g9 t ht).2.2 hk n hn hl
      · rw [eput] at hD1; injection hD1 with e _; cases e
    · rw [if_neg cT] at eput ⊢
      refine ⟨putX_22, fun j k' hj hj2 => by rw [putX_o hj2 (by omega), up_ne (by omega)], fun k' hk' => by rw [putX_o (by omega) (by omega), up_ne (by omega)], by rw [putX_6, up_ne (by omega)], fun D1 hD1 => ?_, fun s' D1 hD1 D2 q1 q2 q3 q4 q5 q6 => ?_⟩
      · rw [eput] at hD1; injection hD1 with e _; cases e
      · rw [eput] at hD1
        injection hD1 with es eD
        injection es with es
        subst es
        have hD : ∀ j k', (j ≠ 1 ∧ (j ≠ 14 ∨ k' ≠ 11 ∧ k' ≠ 2) ∧ (j ≠ 15 ∨ k' ≠ 3 ∧ k' ≠ 4)) → D1 j k' = D j k' := by
          intro j k' hj
          rw [← eD]
          split
          · rw [up_ne (by omega), takeD_o (by omega)]
          · rw [up_ne (by omega), up_ne (by omega), takeD_o (by omega)]
        refine ⟨?_, ?_, ?_, ?_, ?_, ?_, ?_, fun k' hk' => ?_, fun k' hk' => ?_, fun t ht => ?_⟩
        · rw [putX_o (by omega) (by omega), up_ne (by omega), q1 _ _ (by omega), hD _ _ (by omega)]; exact g0
        · rw [putX_1, q1 _ _ (by omega), ← eD]
          split
          · rw [up_ne (by omega), takeD_4]
          · rw [up_ne (by omega), up_ne (by omega), takeD_4]
        · rw [putX_o (by omega) (by omega), up_ne (by omega), q1 _ _ (by omega), hD _ _ (by omega)]; exact g2
        · rw [putX_3, up_ne (by omega), q1 _ _ (by omega), g3, ← eD, hc2]
          have cn1 : c ≠ 1 := fun q => cT (by rw [hc2, q]; rfl)
          have w1 : (i3 c ≤ 0) = (c ≤ 0) := propext (i3_le (b := 0) (by omega) (by omega))
          have w2 : (i3 c ≤ 1) = (c ≤ 1) := propext (i3_le (b := 1) (by omega) (by omega))
          simp only [w1, w2]
          by_cases c0 : c ≤ 0
          · rw [if_pos c0, if_pos (by omega), up_ne (by omega), takeD_o (by omega), hc2]
          · rw [if_neg c0, if_neg (by omega), up_eq]
        · rw [putX_o (by omega) (by omega), up_ne (by omega)]
          have : D2 11 = D 11 := funext fun k' => by rw [q1 _ _ (by omega), hD _ _ (by omega)]
          rw [this]; exact g4
        · rw [putX_o (by omega) (by omega), up_ne (by omega)]
          have : D2 12 = D 12 := funext fun k' => by rw [q1 _ _ (by omega), hD _ _ (by omega)]
          rw [this]; exact g5
        · rw [putX_o (by omega) (by omega), up_ne (by omega), q1 _ _ (by omega), hD _ _ (by omega)]; exact g6
        · rw [putX_o (by omega) (by omega), up_ne (by omega), q1 _ _ (by omega), hD _ _ (by omega)]; exact g7 k' hk'
        · rw [putX_o (by omega) (by omega), up_ne (by omega), q1 _ _ (by omega), hD _ _ (by omega)]; exact g8 k' hk'
        · by_cases hts : t = s
          · subst hts
            refine ⟨?_, fun hk => ?_, fun hk n hn hl => ?_⟩
            · have := putX_row (X := up X 95 (b + 1) (i3 k)) (b := b) (m := k) (s := t) (torn := false) (N := X 96) (n := 0) (by omega)
              exact this.trans q4.symm
            · rw [putX_row (by omega), putX_row (by omega), putX_row (by omega), putX_row (by omega)]
              have := q5 hk
              exact ⟨this.1.symm, this.2.1.symm, this.2.2.1.symm, this.2.2.2.symm⟩
            · rw [putX_row (by omega), putX_row (by omega)]
              have := q6 hk n hn hl
              exact ⟨this.1.symm, this.2.symm⟩
          · have rd : ∀ n, n < 13 → putX (up X 95 (b + 1) (i3 k)) b k s false (X 96) 95 (b + 34 + 13 * t + n) = X 95 (b + 34 + 13 * t + n) := by
              intro n hn
              have : b + 34 + 13 * t + n < b + 34 + 13 * s ∨ b + 34 + 13 * s + 13 ≤ b + 34 + 13 * t + n := by omega
              rw [putX_o (by omega) (by omega), up_ne (by omega)]
            have td : ∀ j, 2 ≤ j → j ≤ 6 → D2 j t = D j t := fun j h1 h2 => by rw [q2 j t hts h1 h2, hD _ _ (by omega)]
            rw [td 2 (by omega) (by omega), td 3 (by omega) (by omega), td 4 (by omega) (by omega), td 5 (by omega) (by omega), td 6 (by omega) (by omega)]
            refine ⟨?_, fun hk => ?_, fun hk n hn hl => ?_⟩
            · exact (rd 0 (by omega)).trans (g9 t ht).1
            · rw [rd 1 (by omega), rd 2 (by omega), rd 3 (by omega), rd 4 (by omega)]; exact (g9 t ht).2.1 hk
            · rw [rd (5 + 2 * n) (by omega), rd (6 + 2 * n) (by omega), q3 7 t n hts hn (Or.inl rfl), q3 8 t n hts hn (Or.inr rfl), hD _ _ (by omega), hD _ _ (by omega)]; exact (g9 t ht).2.2 hk n hn hl
  · rw [eput]
    by_cases cT : D 14 2 = 1
    · rw [if_pos cT]; exact ⟨fun _ => rfl, fun _ => cT⟩
    · rw [if_neg cT]; exact ⟨fun q => absurd q cT, fun q => by cases q⟩
end
