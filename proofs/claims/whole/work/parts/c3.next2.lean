/-! ===== tokens: the next one, the class, whole ===== -/
section
variable {M M' M1 N : xM} {P : Nat → Bool} {f : Nat → Nat} {fu l n m i j k t p s e c w a b : Nat} {v u : Int32} {x y : Int64}
theorem NxF_n : NxF M (nN M p v) := NxF_tr (NxF_I (k := 4) (by omega)) (NxF_I (k := 8) (by omega))
theorem NxF_w : NxF M (wN M p x) := NxF_tr NxF_L (NxF_I (k := 8) (by omega))
theorem tkT_le : tkT f t s ≤ 4 := by
  unfold tkT
  (repeat' split) <;> omega
/-- the end of next: a word is looked up -/
theorem e_next190 (h : TpC f t M) (hs : s ≤ t) (h7 : gI M 10 0 7 = i3 s) (h8 : gI M 10 0 8 = i3 (tkE f t s)) (h2 : gI M 10 0 2 = i3 (tkT f t s)) (h3 : gI M 10 0 3 = -1) (h4 : tkT f t s = 2 → gI M 10 0 4 = nuF f s (tkE f t s - s)) (h5 : tkT f t s = 3 → gI M 10 0 5 = i3 (f s)) (h6 : tkT f t s = 1 → gL M 10 0 6 = nmF f s (tkE f t s - s)) (hf : 1100 < fu) :
    ∃ M', J_X10_next_190 fu 0 M = some M' ∧ AtC f t s M' ∧ NxF M M' := by
  unfold J_X10_next_190
  have hT5 : tkT f t s ≤ 4 := tkT_le
  rw [h2]
  by_cases c : tkT f t s = 1
  · have hst : s < t := by
      by_cases q : s < t
      · exact q
      · unfold tkT at c; rw [if_neg q] at c; cases c
    have hL : isLt (f s) = true := by
      by_cases q : isLt (f s) = true
      · exact q
      · unfold tkT at c
        rw [if_pos hst, if_neg q] at c
        (repeat' split at c) <;> cases c
    have hE : tkE f t s = rnE isLt f t s := by unfold tkE; rw [if_pos hst, if_pos hL]
    obtain ⟨b1, b2⟩ := rnE_b (P := isLt) (f := f) hs
    have h88 : rnE isLt f t s - s ≤ 8 := by
      unfold tkT at c
      rw [if_pos hst, if_pos hL] at c
      by_cases q : 8 < rnE isLt f t s - s
      · rw [if_pos q] at c; cases c
      · omega
    have ek := e_known (fu := fu) (k := rnE isLt f t s - s) h h7 (by rw [h8, hE]; congr 1; omega) (by omega) h88 (fun i hi => rnE_in hs (by omega) (by omega)) hf
    rw [c, if_neg (fun q => q rfl), ek]
    refine ⟨sI M 10 0 3 (wdI (ltr f s (rnE isLt f t s - s))), rfl, ⟨TpC_s h (by omega), hs, ?_, ?_, ?_, ?_, fun q => ?_, fun q => ?_, fun q => ?_⟩, NxF_I (by omega)⟩
    · rw [gI_sI, if_neg (by omega)]; exact h7
    · rw [gI_sI, if_neg (by omega)]; exact h8
    · rw [gI_sI, if_neg (by omega)]; exact h2
    · rw [gI_sI, if_pos ⟨rfl, rfl, rfl⟩]
      unfold tkW tkL
      rw [if_pos c]
    · rw [c] at q; cases q
    · rw [c] at q; cases q
    · exact h6 c
  · rw [if_pos (show ¬ i3 (tkT f t s) = 1 from fun q => c ((i3_eq (b := 1) (by omega) (by omega)).mp q))]
    refine ⟨M, rfl, ⟨h, hs, h7, h8, h2, ?_, h4, h5, h6⟩, NxF_rf⟩
    unfold tkW
    rw [if_neg c]
    exact h3
theorem e_next60 (h : TpC f t M) (hs : s ≤ t) (h7 : gI M 10 0 7 = i3 s) (hf : 1100 < fu) : ∃ M', J_X10_next_60 fu 0 M = some M' ∧ AtC f t s M' ∧ NxF M M' := by
  have h2 := h.2.1
  have hT := TpC_s (k := 8) (v := i3 s) (TpC_s (k := 5) (v := 0) (TpC_s (k := 4) (v := -1) (TpC_s (k := 3) (v := -1) h (by omega)) (by omega)) (by omega)) (by omega)
  have hN : NxF M (sI (sI (sI (sI M 10 0 3 (-1)) 10 0 4 (-1)) 10 0 5 0) 10 0 8 (i3 s)) := NxF_tr (NxF_I (k := 3) (by omega)) (NxF_tr (NxF_I (k := 4) (by omega)) (NxF_tr (NxF_I (k := 5) (by omega)) (NxF_I (k := 8) (by omega))))
  have e3 : gI (sI (sI (sI M 10 0 3 (-1)) 10 0 4 (-1)) 10 0 5 0) 10 0 7 = i3 s := by rw [gI_sI, if_neg (by omega), gI_sI, if_neg (by omega), gI_sI, if_neg (by omega)]; exact h7
  have d3 : gI (sI (sI (sI (sI M 10 0 3 (-1)) 10 0 4 (-1)) 10 0 5 0) 10 0 8 (i3 s)) 10 0 3 = -1 := by rw [gI_sI, if_neg (by omega), gI_sI, if_neg (by omega), gI_sI, if_neg (by omega), gI_sI, if_pos ⟨rfl, rfl, rfl⟩]
  have d7 : gI (sI (sI (sI (sI M 10 0 3 (-1)) 10 0 4 (-1)) 10 0 5 0) 10 0 8 (i3 s)) 10 0 7 = i3 s := by rw [gI_sI, if_neg (by omega)]; exact e3
  have d8 : gI (sI (sI (sI (sI M 10 0 3 (-1)) 10 0 4 (-1)) 10 0 5 0) 10 0 8 (i3 s)) 10 0 8 = i3 s := by rw [gI_sI, if_pos ⟨rfl, rfl, rfl⟩]
  have hw0 : sL (sI (sI (sI (sI M 10 0 3 (-1)) 10 0 4 (-1)) 10 0 5 0) 10 0 8 (i3 s)) 10 0 6 (Int64.ofNat 0) = wN (sI (sI (sI M 10 0 3 (-1)) 10 0 4 (-1)) 10 0 5 0) s 0 := rfl
  have hn0 : sI (sI (sI (sI (sI M 10 0 3 (-1)) 10 0 4 (-1)) 10 0 5 0) 10 0 8 (i3 s)) 10 0 4 0 = nN (sI (sI (sI M 10 0 3 (-1)) 10 0 4 (-1)) 10 0 5 0) s 0 := by
    unfold nN
    exact sI_cm (a := 8) (b := 4) (by omega)
  unfold J_X10_next_60
  simp only [show xchar 0 = true from xch_i3 (n := 0) (by omega), gd_t, e3]
  rw [d7, hT.2.2.1]
  by_cases c : s < t
  · obtain ⟨g1, g2⟩ := TpC_i hT c
    rw [if_pos ((i3_lt (by omega) (by omega)).mpr c), l10_0_0 hT.1]
    simp only [Option.bind_some]
    rw [n23_0 hT.1, xin_i3 (show s < 1000 by omega) (by omega), gd_t, xi_i3 (by omega), g1, isL_e g2]
    simp only [Option.bind_some, bz_0]
    cases cl : isLt (f s) with
    | true =>
      have hE : tkE f t s = rnE isLt f t s := by unfold tkE; rw [if_pos c, if_pos cl]
      obtain ⟨b1, b2⟩ := rnE_b (P := isLt) (f := f) hs
      have hA : TpC f t (sI (sI (sI M 10 0 3 (-1)) 10 0 4 (-1)) 10 0 5 0) := TpC_s (TpC_s (TpC_s h (by omega)) (by omega)) (by omega)
      have ew := e_word (fu := fu) (s := s) hA (t - s) 0 fu (by omega) (by omega)
      have hA3 : gI (sI (sI (sI M 10 0 3 (-1)) 10 0 4 (-1)) 10 0 5 0) 10 0 3 = -1 := by rw [gI_sI, if_neg (by omega), gI_sI, if_neg (by omega), gI_sI, if_pos ⟨rfl, rfl, rfl⟩]
      have hNA : NxF M (sI (sI (sI M 10 0 3 (-1)) 10 0 4 (-1)) 10 0 5 0) := NxF_tr (NxF_I (k := 3) (by omega)) (NxF_tr (NxF_I (k := 4) (by omega)) (NxF_I (k := 5) (by omega)))
      rw [if_neg (by decide)]
      unfold F_X10_readWord
      rw [hw0]
      rw [show L_X10_readWord_5 fu fu 0 (wN (sI (sI (sI M 10 0 3 (-1)) 10 0 4 (-1)) 10 0 5 0) s 0) = _ from ew]
      rw [show runE isLt f t (t - s) (s + 0) = rnE isLt f t s from rfl]
      generalize sI (sI (sI M 10 0 3 (-1)) 10 0 4 (-1)) 10 0 5 0 = A at hA hA3 hNA e3
      have hW := TpC_w (p := rnE isLt f t s) (x := nmF f s (rnE isLt f t s - s)) hA
      have z7 : gI (wN A (rnE isLt f t s) (nmF f s (rnE isLt f t s - s))) 10 0 7 = i3 s := (wN_o (by omega)).trans e3
      unfold J_X10_readWord_72
      rw [wN_8, z7, i3_sub b1]
      by_cases c8 : 8 < rnE isLt f t s - s
      · rw [if_pos (show (8 : Int32) < i3 (rnE isLt f t s - s) from (i3_lt (a := 8) (by omega) (by omega)).mpr c8)]
        have eT : tkT f t s = 4 := by unfold tkT; rw [if_pos c, if_pos cl, if_pos c8]
        obtain ⟨M', r1, r2, r3⟩ := e_next190 (fu := fu) (s := s) (TpC_s (k := 2) (v := 4) hW (by omega)) hs (by rw [gI_sI, if_neg (by omega)]; exact z7) (by rw [gI_sI, if_neg (by omega), wN_8, hE]) (by rw [gI_sI, if_pos ⟨rfl, rfl, rfl⟩, eT]; rfl) (by rw [gI_sI, if_neg (by omega), wN_o (by omega)]; exact hA3) (fun q => by rw [eT] at q; cases q) (fun q => by rw [eT] at q; cases q) (fun q => by rw [eT] at q; cases q) hf
        exact ⟨M', r1, r2, NxF_tr hNA (NxF_tr NxF_w (NxF_tr (NxF_I (k := 2) (by omega)) r3))⟩
      · rw [if_neg (show ¬ (8 : Int32) < i3 (rnE isLt f t s - s) from fun q => c8 ((i3_lt (a := 8) (by omega) (by omega)).mp q))]
        have eT : tkT f t s = 1 := by unfold tkT; rw [if_pos c, if_pos cl, if_neg c8]
        obtain ⟨M', r1, r2, r3⟩ := e_next190 (fu := fu) (s := s) (TpC_s (k := 2) (v := 1) hW (by omega)) hs (by rw [gI_sI, if_neg (by omega)]; exact z7) (by rw [gI_sI, if_neg (by omega), wN_8, hE]) (by rw [gI_sI, if_pos ⟨rfl, rfl, rfl⟩, eT]; rfl) (by rw [gI_sI, if_neg (by omega), wN_o (by omega)]; exact hA3) (fun q => by rw [eT] at q; cases q) (fun q => by rw [eT] at q; cases q) (fun q => by rw [hE]; exact wN_6 (M := A) (p := rnE isLt f t s)) hf
        exact ⟨M', r1, r2, NxF_tr hNA (NxF_tr NxF_w (NxF_tr (NxF_I (k := 2) (by omega)) r3))⟩
    | false =>
      rw [if_pos rfl, l10_0_0 hT.1]
      simp only [Option.bind_some]
      rw [n23_0 hT.1, d7, xin_i3 (show s < 1000 by omega) (by omega), gd_t, xi_i3 (by omega), g1, isD_e g2]
      simp only [Option.bind_some, bz_0]
      cases cd : isDg (f s) with
      | true =>
        have hE : tkE f t s = rnE isDg f t s := by unfold tkE; rw [if_pos c, if_neg (by rw [cl]; decide), if_pos cd]
        obtain ⟨b1, b2⟩ := rnE_b (P := isDg) (f := f) hs
        have hA : TpC f t (sI (sI (sI M 10 0 3 (-1)) 10 0 4 (-1)) 10 0 5 0) := TpC_s (TpC_s (TpC_s h (by omega)) (by omega)) (by omega)
        have ew := e_numb (fu := fu) (s := s) hA (t - s) 0 fu (by omega) (by omega)
        have hA3 : gI (sI (sI (sI M 10 0 3 (-1)) 10 0 4 (-1)) 10 0 5 0) 10 0 3 = -1 := by rw [gI_sI, if_neg (by omega), gI_sI, if_neg (by omega), gI_sI, if_pos ⟨rfl, rfl, rfl⟩]
        have hNA : NxF M (sI (sI (sI M 10 0 3 (-1)) 10 0 4 (-1)) 10 0 5 0) := NxF_tr (NxF_I (k := 3) (by omega)) (NxF_tr (NxF_I (k := 4) (by omega)) (NxF_I (k := 5) (by omega)))
        rw [if_neg (by decide)]
        unfold F_X10_readNumber
        rw [hn0]
        rw [show L_X10_readNumber_5 fu fu 0 (nN (sI (sI (sI M 10 0 3 (-1)) 10 0 4 (-1)) 10 0 5 0) s 0) = _ from ew]
        rw [show runE isDg f t (t - s) (s + 0) = rnE isDg f t s from rfl]
        generalize sI (sI (sI M 10 0 3 (-1)) 10 0 4 (-1)) 10 0 5 0 = A at hA hA3 hNA e3
        have hW := TpC_n (p := rnE isDg f t s) (v := nuF f s (rnE isDg f t s - s)) hA
        have z7 : gI (nN A (rnE isDg f t s) (nuF f s (rnE isDg f t s - s))) 10 0 7 = i3 s := (nN_o (by omega)).trans e3
        unfold J_X10_readNumber_68
        rw [nN_8, z7, i3_sub b1]
        by_cases c8 : 4 < rnE isDg f t s - s
        · rw [if_pos (show (4 : Int32) < i3 (rnE isDg f t s - s) from (i3_lt (a := 4) (by omega) (by omega)).mpr c8)]
          have eT : tkT f t s = 4 := by unfold tkT; rw [if_pos c, if_neg (by rw [cl]; decide), if_pos cd, if_pos c8]
          obtain ⟨M', r1, r2, r3⟩ := e_next190 (fu := fu) (s := s) (TpC_s (k := 2) (v := 4) hW (by omega)) hs (by rw [gI_sI, if_neg (by omega)]; exact z7) (by rw [gI_sI, if_neg (by omega), nN_8, hE]) (by rw [gI_sI, if_pos ⟨rfl, rfl, rfl⟩, eT]; rfl) (by rw [gI_sI, if_neg (by omega), nN_o (by omega)]; exact hA3) (fun q => by rw [eT] at q; cases q) (fun q => by rw [eT] at q; cases q) (fun q => by rw [eT] at q; cases q) hf
          exact ⟨M', r1, r2, NxF_tr hNA (NxF_tr NxF_n (NxF_tr (NxF_I (k := 2) (by omega)) r3))⟩
        · rw [if_neg (show ¬ (4 : Int32) < i3 (rnE isDg f t s - s) from fun q => c8 ((i3_lt (a := 4) (by omega) (by omega)).mp q))]
          have eT : tkT f t s = 2 := by unfold tkT; rw [if_pos c, if_neg (by rw [cl]; decide), if_pos cd, if_neg c8]
          obtain ⟨M', r1, r2, r3⟩ := e_next190 (fu := fu) (s := s) (TpC_s (k := 2) (v := 2) hW (by omega)) hs (by rw [gI_sI, if_neg (by omega)]; exact z7) (by rw [gI_sI, if_neg (by omega), nN_8, hE]) (by rw [gI_sI, if_pos ⟨rfl, rfl, rfl⟩, eT]; rfl) (by rw [gI_sI, if_neg (by omega), nN_o (by omega)]; exact hA3) (fun q => by rw [gI_sI, if_neg (by omega), nN_4, hE]) (fun q => by rw [eT] at q; cases q) (fun q => by rw [eT] at q; cases q) hf
          exact ⟨M', r1, r2, NxF_tr hNA (NxF_tr NxF_n (NxF_tr (NxF_I (k := 2) (by omega)) r3))⟩
      | false =>
        have hE : tkE f t s = s + 1 := by unfold tkE; rw [if_pos c, if_neg (by rw [cl]; decide), if_neg (by rw [cd]; decide)]
        rw [if_pos rfl, l10_0_0 hT.1]
        simp only [Option.bind_some]
        rw [n23_0 hT.1, d7, xin_i3 (show s < 1000 by omega) (by omega), gd_t, xi_i3 (by omega), g1, xch_i3 (by omega), gd_t, show Nat.beq 0 0 = true from rfl, gd_t]
        generalize sI (sI (sI (sI M 10 0 3 (-1)) 10 0 4 (-1)) 10 0 5 0) 10 0 8 (i3 s) = A at hT hN d3 d7 d8
        have z5 : gI (sI A 10 0 5 (i3 (f s))) 10 0 5 = i3 (f s) := by rw [gI_sI, if_pos ⟨rfl, rfl, rfl⟩]
        have hsg : isSg (f s) = ! decide (xstrF 0 (i3 (f s)) < 0) := sg_x ⟨f s, by omega⟩
        have z7 : ∀ v, gI (sI (sI A 10 0 5 (i3 (f s))) 10 0 2 v) 10 0 7 = i3 s := fun v => by rw [gI_sI, if_neg (by omega), gI_sI, if_neg (by omega)]; exact d7
        rw [z5]
        have fin : ∀ ty, tkT f t s = ty → (ty = 3 ∨ ty = 4) → ∃ M', J_X10_next_190 fu 0 (sI (sI (sI A 10 0 5 (i3 (f s))) 10 0 2 (i3 ty)) 10 0 8 (i3 s + 1)) = some M' ∧ AtC f t s M' ∧ NxF M M' := fun ty eT hty => by
          rw [i3_add1]
          obtain ⟨M', r1, r2, r3⟩ := e_next190 (fu := fu) (s := s) (M := sI (sI (sI A 10 0 5 (i3 (f s))) 10 0 2 (i3 ty)) 10 0 8 (i3 (s + 1))) (TpC_s (TpC_s (TpC_s hT (by omega)) (by omega)) (by omega)) hs (by rw [gI_sI, if_neg (by omega)]; exact z7 _) (by rw [gI_sI, if_pos ⟨rfl, rfl, rfl⟩, hE]) (by rw [gI_sI, if_neg (by omega), gI_sI, if_pos ⟨rfl, rfl, rfl⟩, eT]) (by rw [gI_sI, if_neg (by omega), gI_sI, if_neg (by omega), gI_sI, if_neg (by omega)]; exact d3) (fun q => by omega) (fun q => by rw [gI_sI, if_neg (by omega), gI_sI, if_neg (by omega)]; exact z5) (fun q => by omega) hf
          exact ⟨M', r1, r2, NxF_tr hN (NxF_tr (NxF_I (k := 5) (by omega)) (NxF_tr (NxF_I (k := 2) (by omega)) (NxF_tr (NxF_I (k := 8) (by omega)) r3)))⟩
        by_cases cs : xstrF 0 (i3 (f s)) < 0
        · have e4 : tkT f t s = 4 := by
            rw [decide_eq_true cs] at hsg
            unfold tkT
            rw [if_pos c, if_neg (by rw [cl]; decide), if_neg (by rw [cd]; decide), if_neg (by rw [hsg]; decide)]
          rw [if_pos cs, show (4 : Int32) = i3 4 from rfl, z7]
          exact fin 4 e4 (Or.inr rfl)
        · have e4 : tkT f t s = 3 := by
            rw [decide_eq_false cs] at hsg
            unfold tkT
            rw [if_pos c, if_neg (by rw [cl]; decide), if_neg (by rw [cd]; decide), if_pos (by rw [hsg]; decide)]
          rw [if_neg cs, show (3 : Int32) = i3 3 from rfl, z7]
          exact fin 3 e4 (Or.inl rfl)
  · have eT : tkT f t s = 0 := by unfold tkT; rw [if_neg c]
    have hE : tkE f t s = s := by unfold tkE; rw [if_neg c]
    rw [if_neg (fun q => c ((i3_lt (by omega) (by omega)).mp q))]
    obtain ⟨M', r1, r2, r3⟩ := e_next190 (fu := fu) (s := s) (TpC_s (k := 2) (v := 0) hT (by omega)) hs (by rw [gI_sI, if_neg (by omega)]; exact d7) (by rw [gI_sI, if_neg (by omega), hE]; exact d8) (by rw [gI_sI, if_pos ⟨rfl, rfl, rfl⟩, eT]; rfl) (by rw [gI_sI, if_neg (by omega)]; exact d3) (fun q => by omega) (fun q => by omega) (fun q => by omega) hf
    exact ⟨M', r1, r2, NxF_tr hN (NxF_tr (NxF_I (k := 2) (by omega)) r3)⟩
/-- the next token, the class -/
theorem e_next (h : TpC f t M) (he : e ≤ t) (h8 : gI M 10 0 8 = i3 e) (hf : 1100 < fu) : ∃ M', F_X10_next fu 0 M = some M' ∧ AtC f t (rnE isBl f t e) M' ∧ NxF M M' := by
  have h2 := h.2.1
  obtain ⟨b1, b2⟩ := rnE_b (P := isBl) (f := f) he
  have hT : TpC f t (sI M 10 0 7 (i3 (rnE isBl f t e))) := TpC_s h (by omega)
  obtain ⟨M', r1, r2, r3⟩ := e_next60 (fu := fu) hT b2 (by rw [gI_sI, if_pos ⟨rfl, rfl, rfl⟩]) hf
  refine ⟨M', ?_, r2, NxF_tr (NxF_I (by omega)) r3⟩
  unfold F_X10_next
  rw [h8]
  have := e_skip (fu := fu) h (t - e) e fu (by omega) (by omega)
  exact this.trans r1
end
