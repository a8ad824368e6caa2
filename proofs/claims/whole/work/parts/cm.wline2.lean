/-! ===== a WORK's line, read: the class, whole ===== -/
section
variable {M M' M1 N : xM} {X Y Y' : xT} {f : Nat → Nat} {fu l t T n i j k d s x a b w F e : Nat} {c ls : List Nat} {q : Nat × Nat} {u v : Int32} {nm : Nat → List Nat} {D : Nat → Nat → Nat}
theorem tkNu_hi (h : (tkNu f t i j k).1 = 0) : (tkNu f t i j k).2.2 ≤ k := by
  unfold tkNu at h ⊢
  by_cases c2 : tkT f t (tS f t i) = 2
  · rw [if_pos c2] at h ⊢
    by_cases c3 : j ≤ nuN f (tS f t i) (tkE f t (tS f t i) - tS f t i) ∧ nuN f (tS f t i) (tkE f t (tS f t i) - tS f t i) ≤ k
    · rw [if_pos c3] at h ⊢; exact c3.2
    · rw [if_neg c3] at h
      have h' : 4 + 16 * tS f t i = 0 := h
      omega
  · rw [if_neg c2] at h
    have h' : 1 + 16 * tS f t i = 0 := h
    omega
theorem e_readNums (h : LnC f t (0, i) M) (hw : w < 2) (h9 : gI M 9 w 0 = i3 n) (hn : n < 24) (hf : 1100 < fu) :
    ∃ M', F_X9_readNumbers fu w (some 0) M = some (bz (decide ((wlNum f t i).1 = 0)), M') ∧ LnC f t ((wlNum f t i).1, (wlNum f t i).2.1) M' ∧ WkF w M M' ∧ (∀ s k, ((s ≠ 10 + 4 * w + 2 ∧ s ≠ 10 + 4 * w + 3) ∨ k ≠ n) → gI M' 20 s k = gI M 20 s k) ∧ gI M' 9 w 0 = i3 n ∧ ((wlNum f t i).1 = 0 → gI M' 20 (10 + 4 * w + 2) n = i3 (wlNum f t i).2.2.1 ∧ gI M' 20 (10 + 4 * w + 3) n = i3 (wlNum f t i).2.2.2) := by
  obtain ⟨M1, r1, r2, r3⟩ := e_takeNu (lo := 0) (hi := 3) h hf (by omega) (by omega)
  have hb := tkNu_hi (f := f) (t := t) (i := i) (j := 0) (k := 3)
  unfold F_X9_readNumbers wlNum
  simp only [Option.bind_some]
  rw [show F_X10_takeNumber fu 0 0 3 M = _ from r1]
  simp only [Option.bind_some]
  generalize tkNu f t i 0 3 = p at r2 hb ⊢
  by_cases p0 : p.1 = 0
  · rw [if_pos p0]
    have hp3 := hb p0
    have h1 : LnC f t (0, p.2.1) M1 := by
      have e : (p.1, p.2.1) = (0, p.2.1) := by rw [p0]
      rw [← e]; exact r2
    have hL1 := h1.1.1
    have h91 : gI M1 9 w 0 = i3 n := (r3.2.2.2 _ _ _ (by omega)).trans h9
    obtain ⟨M2, s1, s2, s3⟩ := e_takeNu (lo := 0) (hi := 255) (LnC_20 (s := 10 + 4 * w + 2) (k := n) (v := i3 p.2.2) h1) hf (by omega) (by omega)
    have hb2 := tkNu_hi (f := f) (t := t) (i := p.2.1) (j := 0) (k := 255)
    have hst : ((gR M1 9 w 3).bind fun a_3 => gd (xin (gI M1 9 w 0) (gN M1 20 a_3)) ((F_X10_takeNumber fu 0 0 255 (sI M1 20 a_3 (xi (gI M1 9 w 0)) (i3 p.2.2))).bind fun p_6 => if 0 ≤ p_6.1 then (gR p_6.2 9 w 4).bind fun a_7 => gd (xin (gI p_6.2 9 w 0) (gN p_6.2 20 a_7)) (gd (xbool 1) (some ((1 : Int32), sI p_6.2 20 a_7 (xi (gI p_6.2 9 w 0)) p_6.1))) else gd (xbool 0) (some ((0 : Int32), p_6.2)))) = if (tkNu f t p.2.1 0 255).1 = 0 then some (1, sI M2 20 (10 + 4 * w + 3) n (i3 (tkNu f t p.2.1 0 255).2.2)) else some (0, M2) := by
      rw [l9_3 hL1 hw]
      simp only [Option.bind_some]
      rw [n_s2 hL1 hw, h91, xin_i3 hn (by omega), gd_t, xi_i3 (by omega), show F_X10_takeNumber fu 0 0 255 (sI M1 20 (10 + 4 * w + 2) n (i3 p.2.2)) = _ from s1]
      simp only [Option.bind_some]
      by_cases c0 : (tkNu f t p.2.1 0 255).1 = 0
      · have h92 : gI M2 9 w 0 = i3 n := (s3.2.2.2 _ _ _ (by omega)).trans (by rw [gI_sI, if_neg (by omega)]; exact h91)
        have := hb2 c0
        rw [if_pos c0, if_pos c0, if_pos (ge0 (by omega)), l9_4 s2.1.1 hw]
        simp only [Option.bind_some]
        rw [n_s3 s2.1.1 hw, h92, xin_i3 hn (by omega), gd_t, xi_i3 (by omega), xb_t, gd_t]
      · rw [if_neg c0, if_neg c0, if_neg (by decide), xb_f, gd_t]
    rw [if_pos p0, if_pos (show (0 : Int32) ≤ i3 p.2.2 from ge0 (by omega))]
    have hs20 : ∀ s k, ((s ≠ 10 + 4 * w + 2 ∧ s ≠ 10 + 4 * w + 3) ∨ k ≠ n) → gI M2 20 s k = gI M 20 s k := fun s k hsk => by
      rw [s3.2.2.2 _ _ _ (by omega), gI_sI, if_neg (by omega)]; exact r3.2.2.2 _ _ _ (by omega)
    have h92 : gI M2 9 w 0 = i3 n := (s3.2.2.2 _ _ _ (by omega)).trans (by rw [gI_sI, if_neg (by omega)]; exact h91)
    have hW2 : WkF w M M2 := WkF_tr (WkF_ny r3) (WkF_tr (WkF_20 (by omega)) (WkF_ny s3))
    by_cases c0 : (tkNu f t p.2.1 0 255).1 = 0
    · rw [if_pos c0] at hst
      rw [if_pos c0]
      have s2' : LnC f t (0, (tkNu f t p.2.1 0 255).2.1) M2 := by
        have e : ((tkNu f t p.2.1 0 255).1, (tkNu f t p.2.1 0 255).2.1) = (0, (tkNu f t p.2.1 0 255).2.1) := by rw [c0]
        rw [← e]; exact s2
      refine ⟨sI M2 20 (10 + 4 * w + 3) n (i3 (tkNu f t p.2.1 0 255).2.2), hst, LnC_20 s2', WkF_tr hW2 (WkF_20 (by omega)), fun s k hsk => ?_, ?_, fun _ => ⟨?_, ?_⟩⟩
      · rw [gI_sI, if_neg (by omega)]; exact hs20 s k hsk
      · rw [gI_sI, if_neg (by omega)]; exact h92
      · rw [gI_sI, if_neg (by omega), s3.2.2.2 _ _ _ (by omega), gI_sI, if_pos ⟨rfl, rfl, rfl⟩]
      · rw [gI_sI, if_pos ⟨rfl, rfl, rfl⟩]
    · rw [if_neg c0] at hst
      rw [if_neg c0]
      refine ⟨M2, ?_, s2, hW2, hs20, h92, fun z => absurd z c0⟩
      rw [decide_eq_false c0]
      exact hst
  · rw [if_neg p0, if_neg p0, if_neg (by decide), xb_f, gd_t]
    refine ⟨M1, ?_, r2, WkF_ny r3, fun s k _ => r3.2.2.2 _ _ _ (by omega), (r3.2.2.2 _ _ _ (by omega)).trans h9, fun z => absurd z p0⟩
    rw [decide_eq_false p0]
    rfl
end
