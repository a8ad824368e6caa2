/-! ===== a commit keeps what holds ===== -/
section
variable {M : xM} {D E X Y Z T P X' E' E'' X'' : xT} {C : xC} {R N : Nat → Int32} {fu b d L L' s o t k n m i j p q f l w nb nw a at' : Nat} {x y z v u : Int32} {nt : Bool}
theorem InA_le (h : InA L D) (hl : L ≤ L') (h2 : L' < 1000000) : InA L' D := by
  obtain ⟨a1, a2, a3, a4⟩ := h
  exact ⟨a1, by omega, h2, a4⟩
theorem Inv_le (h : Inv C L D) (hl : L ≤ L') (h2 : L' < 1000000) : Inv C L' D := ⟨h.1, InA_le h.2.1 hl h2, h.2.2⟩
theorem CMI_begin (hB : CB C) (hI : Inv C L D) (hn : n ≤ 6) (hr : i3 n ≤ D 15 3) : CMI C L D D n 0 := by
  obtain ⟨hO, hA, hN, hS, hM, ⟨c1, c2, c3, c4⟩, hOo, hIB⟩ := hI
  have h36 := tot36 hB
  have hT : tot C = C 0 0 * C 0 1 := rfl
  have hle := eraA_le (D := D) (nw := C 0 1) (C 0 0)
  rw [hIB.1, i3_le (by omega) (by omega)] at hr
  have no : ∀ s, s < tot C → D 2 s = 3 → lsN D < sq D s → False := fun s hs hk hl => by
    have := (node_seq (hN s hs) (Or.inr (Or.inr hk))).2.2
    omega
  exact ⟨⟨hO, hA, hN, hS, hM, hOo, hIB⟩, c1, fun s hs hk hb _ => c2 s hs hk hb, c3, c4, fun s hs hk hl => (no s hs hk hl).elim, fun j hj => absurd hj (Nat.not_lt_zero _), rfl, fun _ => rfl, fun _ => rfl, _, hIB.1, by omega, by omega⟩
theorem CMI_room (h : CMI C L D E n i) (hi : i < n) (hn : n ≤ 6) : ¬ E 15 3 = 0 := by
  obtain ⟨-, -, -, -, -, -, -, -, -, -, e, r1, r2, r3⟩ := h
  rw [r1]
  intro q
  have := (i3_eq (b := 0) (by omega) (by omega)).mp q
  omega
theorem CMI_step (hB : CB C) (h : CMI C L D E n i) (hi : i < n) (hn : n ≤ 6) (hL : L + n < 1000000) (hat : at' ≤ 20) (nt : Bool) :
    Inv C (L + i + 1) (up E 14 10 (E 14 10 + 1)) ∧ ¬ up E 14 10 (E 14 10 + 1) 15 3 = 0 ∧
    ((up E 14 10 (E 14 10 + 1) 14 2 = 1 ∧ ∃ T, putT nt (up E 14 10 (E 14 10 + 1)) (C 0 0) (C 0 1) = (none, T) ∧ Inv C (L + i + 1) T) ∨
     (¬ up E 14 10 (E 14 10 + 1) 14 2 = 1 ∧ ∃ s T, putT nt (up E 14 10 (E 14 10 + 1)) (C 0 0) (C 0 1) = (some s, T) ∧ s < tot C ∧ CMI C L D (fillPartT T s i n at').2 n (i + 1) ∧ (fillPartT T s i n at').1 ≤ 20)) := by
  have h36 := tot36 hB
  have hI := CMI_inv h hi hn
  have h0 := Inv_last hI (by omega)
  have he0 : ¬ up E 14 10 (E 14 10 + 1) 15 3 = 0 := by rw [up_ne (by omega)]; exact CMI_room h hi hn
  have hE : ∀ t, up E 14 10 (E 14 10 + 1) 2 t = E 2 t := fun t => up_ne (by omega)
  have h3 : Okd 3 (C 0 0) (C 0 1) (up E 14 10 (E 14 10 + 1)) := ⟨h0.1, fun q => absurd q (by decide)⟩
  have hP := putT_ok (nt := nt) h3
  obtain ⟨k, l, hSp, hh, hst, hs0, hput⟩ := put_frame hB h0 he0 nt
  refine ⟨h0, he0, ?_⟩
  rcases hput with ⟨hc, e⟩ | ⟨hc, D1, e, hPo⟩
  · rw [e] at hP
    exact Or.inl ⟨hc, _, e, Inv_torn hB h0 hSp hh rfl hst hs0 hP.1.1⟩
  · rw [e] at hP
    have hk2 : D1 2 (k * C 0 1 + (C 0 1 - l)) = 0 := by rw [hPo.1 _ _ (by omega)]; exact hs0
    have hf := fillPartT_ok (part := i) (parts := n) (at' := at') hat (by omega) hk2 hP.1
    exact Or.inr ⟨hc, _, D1, e, hst, CMI_place hB h hi hn hL h0 hPo hSp hh rfl hst (by rw [← hE]; exact hs0) hat hf.1.1, hf.2⟩
theorem Inv_comR (hB : CB C) (hn : n ≤ 6) (hn1 : 1 ≤ n) (hL : L + n < 1000000) (nt : Bool) : ∀ (m i at' : Nat) (E : xT), i + m = n → at' ≤ 20 → CMI C L D E n i → Inv C (L + n) (comR nt (C 0 0) (C 0 1) n m i at' E).2
  | 0, i, at', E, hi, hat, h => by
    have : i = n := by omega
    subst this
    exact CMI_end h hn hn1
  | m + 1, i, at', E, hi, hat, h => by
    unfold comR
    rcases (CMI_step hB h (by omega) hn hL hat nt).2.2 with ⟨-, T, e, hT⟩ | ⟨-, s, T, e, hs, hT, hat2⟩
    · rw [e]; exact Inv_le hT (by omega) hL
    · rw [e]
      exact Inv_comR hB hn hn1 hL nt m (i + 1) _ _ (by omega) hat2 hT
theorem Inv_commit (hB : CB C) (hI : Inv C L D) (hL : L + 6 < 1000000) (nt : Bool) : Inv C (L + 6) (commitT nt D (C 0 0) (C 0 1)).2 := by
  unfold commitT
  have hp := partsN_le D
  by_cases c : D 14 1 = 0
  · rw [if_pos c]; exact Inv_le hI (by omega) hL
  · rw [if_neg c]
    by_cases c2 : i3 (partsN D) ≤ D 15 3
    · rw [if_pos c2]
      exact Inv_le (Inv_comR hB hp (by unfold partsN; omega) (by omega) nt _ 0 0 D (by omega) (by omega) (CMI_begin hB hI hp c2)) (by omega) hL
    · rw [if_neg c2]; exact Inv_le hI (by omega) hL
/-- what was surveyed holds no more, once something is put -/
theorem comR_11 (hB : CB C) (hn : n ≤ 6) (hL : L + n < 1000000) (nt : Bool) : ∀ (m i at' : Nat) (E : xT), i + m = n → at' ≤ 20 → CMI C L D E n i → (comR nt (C 0 0) (C 0 1) n m i at' E).2 14 11 = 0
  | 0, i, at', E, hi, hat, h => by unfold comR; show (up (up (up E 15 5 (E 14 10)) 15 6 (i3 n)) 14 11 0) 14 11 = 0; exact up_eq
  | m + 1, i, at', E, hi, hat, h => by
    unfold comR
    have hst := CMI_step hB h (by omega) hn hL hat nt
    have h11 := putT_11 (nt := nt) (D := up E 14 10 (E 14 10 + 1)) (nb := C 0 0) (nw := C 0 1) (s := 0)
    rcases hst.2.2 with ⟨-, T, e, hT⟩ | ⟨-, s, T, e, hs, hT, hat2⟩
    · rw [e]
      refine h11.1 T e ?_
      obtain ⟨k, l, -, h2, -⟩ := take_spot hB hst.1.1 hst.1.2.2.2.2.2.2.2 hst.2.1
      rw [h2]; exact fun q => by cases q
    · rw [e]
      exact comR_11 hB hn hL nt m (i + 1) _ _ (by omega) hat2 hT
theorem InV_commit (hB : CB C) (hI : Inv C L D) (hV : InV C D) (hL : L + 6 < 1000000) (nt : Bool) : InV C (commitT nt D (C 0 0) (C 0 1)).2 := by
  unfold commitT
  have hp := partsN_le D
  by_cases c : D 14 1 = 0
  · rw [if_pos c]; exact hV
  · rw [if_neg c]
    by_cases c2 : i3 (partsN D) ≤ D 15 3
    · rw [if_pos c2]
      exact Or.inl (comR_11 hB hp (by omega) nt _ 0 0 D (by omega) (by omega) (CMI_begin hB hI hp c2))
    · rw [if_neg c2]; exact hV
end
