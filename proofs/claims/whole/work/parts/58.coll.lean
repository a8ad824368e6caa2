/-! ===== a collect keeps what holds ===== -/
def inBlk (C : xC) (k t : Nat) : Prop := k * C 0 1 ≤ t ∧ t < k * C 0 1 + C 0 1
/-- along a collect of block k, at its slot i: D is the surveyed disk it began with -/
def CI (C : xC) (L : Nat) (D E : xT) (k i : Nat) : Prop :=
  Inv C L E ∧ (∀ t j, inBlk C k t → 2 ≤ j → j ≤ 6 → E j t = D j t) ∧ E 15 4 ≠ i3 k ∧ (∀ t, E 13 t = D 13 t) ∧ E 15 5 = D 15 5 ∧ E 15 6 = D 15 6 ∧
  (∀ t, t < tot C → ¬ inBlk C k t → D 2 t ≠ 0 → ∀ j, 2 ≤ j → j ≤ 6 → E j t = D j t) ∧
  (∀ j, j < i → liveB D (k * C 0 1 + j) = true → ∃ t, t < tot C ∧ ¬ inBlk C k t ∧ ∀ j', 2 ≤ j' → j' ≤ 6 → E j' t = D j' (k * C 0 1 + j)) ∧
  ∃ l e, l < C 0 1 ∧ E 1 k = i3 l ∧ E 15 3 = i3 e ∧ l + (cnt (fun j => liveB D (k * C 0 1 + j)) (C 0 1) - cnt (fun j => liveB D (k * C 0 1 + j)) i) ≤ e ∧ e ≤ 36
section
variable {M : xM} {D E X Y Z T X' : xT} {C : xC} {R N : Nat → Int32} {fu b d L s o t k n m i j p q f l w nb nw a : Nat} {x y z v u : Int32} {nt : Bool}
theorem Inv_copyNode (hB : CB C) (hI : Inv C L D) (hPo : PutOf C D E k) (hSp : Spot C D k l) (hh : ∀ k', k' < C 0 0 → D 15 4 = i3 k' → k' = k ∨ D 1 k' = 0) (hs : k * C 0 1 + (C 0 1 - l) = s) (hst : s < tot C) (hs0 : D 2 s = 0)
    (hOk : Ok (C 0 0) (C 0 1) E) (ho : o < tot C) (ho2 : D 2 o ≠ 0) : Inv C L (copyT E o s) ∧ Off D (copyT E o s) s ∧ Copy D (copyT E o s) s o := by
  obtain ⟨hO, hA, hN, hS, hM, hC, hOo, hIB⟩ := hI
  have hPo' := hPo
  obtain ⟨f1, f2, f3, f4, f5, f6, f7⟩ := hPo
  have hso : s ≠ o := fun q => ho2 (by rw [← q]; exact hs0)
  have hOff : Off D (copyT E o s) s := ⟨fun t j ht h1 h2 => by rw [copyT_ne (by omega) (by omega), f1 _ _ (by omega)], fun t n ht hn => ⟨by rw [copyT_en (Or.inl rfl) hn ht, f1 _ _ (by omega)], by rw [copyT_en (Or.inr rfl) hn ht, f1 _ _ (by omega)]⟩,
    by rw [copyT_lo (by omega), f1 _ _ (by omega)], by rw [copyT_lo (by omega), f1 _ _ (by omega)], by rw [copyT_lo (by omega), f1 _ _ (by omega)]⟩
  have hCp : Copy D (copyT E o s) s o := ⟨fun j h1 h2 => by rw [copyT_at ⟨h1, h2⟩, f1 _ _ (by omega)], fun n hn => ⟨by rw [copyT_e (Or.inl rfl) hn, f1 _ _ (by omega)], by rw [copyT_e (Or.inr rfl) hn, f1 _ _ (by omega)]⟩⟩
  refine ⟨⟨Ok_copy hOk ho, InA_off hOff hA, InN_copy hOff hCp ho hN, InS_copy hOff hCp ho hS, InM_copy hOff hCp ho (fun a ha => by rw [copyT_lo (by omega), f1 _ _ (by omega)]) hM, InC_copy hOff hCp ho hs0 hC, ?_, ?_⟩, hOff, hCp⟩
  · obtain ⟨o1, o2, o3⟩ := InO_put hPo' hOo
    exact ⟨by rw [copyT_lo (by omega)]; exact o1, by rw [copyT_lo (by omega)]; exact o2, fun f hf => by rw [copyT_lo (by omega), copyT_lo (by omega)]; exact o3 f hf⟩
  · refine InB_place hB hIB hSp hh (by rw [copyT_lo (by omega)]; exact f4) (by rw [copyT_lo (by omega)]; exact f5) (fun k' hk' => by rw [copyT_lo (by omega)]; exact f6 k' hk') (by rw [copyT_lo (by omega)]; exact f7) ?_ (fun t ht hts => ?_)
    · rw [hs, hCp.1 2 (by omega) (by omega)]; exact ho2
    · rw [hs] at hts; exact hOff.1 t 2 hts (by omega) (by omega)
theorem cnt_lt {p : Nat → Bool} : ∀ {n : Nat}, i < n → p i = true → cnt p i < cnt p n
  | 0, h, _ => absurd h (Nat.not_lt_zero _)
  | n + 1, h, hp => by
    rw [cnt_s]
    rcases Nat.lt_or_ge i n with c | c
    · have := cnt_lt (n := n) c hp
      split <;> omega
    · have e : i = n := by omega
      subst e
      rw [if_pos hp]; omega
/-- a live slot: torn, or copied -/
theorem CI_step (hB : CB C) (hk : k < C 0 0) (hi : i < C 0 1) (hlv : liveB D (k * C 0 1 + i) = true) (h : CI C L D E k i) (nt : Bool) :
    ¬ E 15 3 = 0 ∧ ((E 14 2 = 1 ∧ ∃ T, putT nt E (C 0 0) (C 0 1) = (none, T) ∧ Inv C L T) ∨ (¬ E 14 2 = 1 ∧ ∃ s T, putT nt E (C 0 0) (C 0 1) = (some s, T) ∧ CI C L D (copyT T (k * C 0 1 + i) s) k (i + 1))) := by
  obtain ⟨hI, h2, h3, h4, h5, h6, h7, h8, l, e, h9, h10, h11, h12, h13⟩ := h
  have hBk := blk (nw := C 0 1) hk
  have hT : tot C = C 0 0 * C 0 1 := rfl
  have c61 := hB.2.1
  have hcl := cnt_lt (p := fun j => liveB D (k * C 0 1 + j)) hi hlv
  have hne : ¬ E 15 3 = 0 := by
    rw [h11]
    intro q
    have := (i3_eq (b := 0) (by omega) (by omega)).mp q
    omega
  refine ⟨hne, ?_⟩
  obtain ⟨m, l', hSp, hh, hst, hs0, hput⟩ := put_frame hB hI hne nt
  have h3O : Okd 3 (C 0 0) (C 0 1) E := ⟨hI.1, fun q => absurd q (by decide)⟩
  have hP := putT_ok (nt := nt) h3O
  have hob : inBlk C k (k * C 0 1 + i) := ⟨by omega, by omega⟩
  have hoD : D 2 (k * C 0 1 + i) ≠ 0 := live_ne hlv
  have hoE : E 2 (k * C 0 1 + i) ≠ 0 := by rw [h2 _ 2 hob (by omega) (by omega)]; exact hoD
  have hmk : m ≠ k := by
    intro q
    have hSp' := hSp
    obtain ⟨s1, s2, s3, s4, s5⟩ := hSp
    rw [q] at s4 s1
    rw [h10] at s4
    have e1 := (i3_eq (by omega) (by omega)).mp s4
    obtain ⟨l2, g1, g2, g3, g4⟩ := hI.2.2.2.2.2.2.2.2 k hk
    rw [h10] at g2
    have e2 := (i3_eq (by omega) (by omega)).mp g2
    rcases g4 with r | r | r
    · exact h3 r
    · omega
    · omega
  have hsb : ¬ inBlk C k (m * C 0 1 + (C 0 1 - l')) := by
    obtain ⟨s1, s2, s3, s4, s5⟩ := hSp
    intro q
    unfold inBlk at q
    rcases Nat.lt_or_ge m k with c | c
    · have := Nat.mul_le_mul_right (C 0 1) (show m + 1 ≤ k from c)
      rw [Nat.succ_mul] at this
      omega
    · have := Nat.mul_le_mul_right (C 0 1) (show k + 1 ≤ m by omega)
      rw [Nat.succ_mul] at this
      omega
  rcases hput with ⟨hc, eq⟩ | ⟨hc, D1, eq, hPo⟩
  · left
    rw [eq] at hP
    exact ⟨hc, _, eq, Inv_torn hB hI hSp hh rfl hst hs0 hP.1.1⟩
  · right
    rw [eq] at hP
    refine ⟨hc, _, D1, eq, ?_⟩
    have hcp := Inv_copyNode hB hI hPo hSp hh rfl hst hs0 hP.1.1 (show k * C 0 1 + i < tot C by omega) hoE
    obtain ⟨f1, f2, f3, f4, f5, f6, f7⟩ := hPo
    generalize m * C 0 1 + (C 0 1 - l') = s at hst hs0 hsb hcp ⊢
    obtain ⟨hI2, hOff, hCp⟩ := hcp
    have lo : ∀ j t, 9 ≤ j → j < 14 ∨ j = 15 ∧ t ≠ 3 ∧ t ≠ 4 → copyT D1 (k * C 0 1 + i) s j t = E j t := fun j t h1 h2 => by rw [copyT_lo (by omega), f1 _ _ (by omega)]
    refine ⟨hI2, fun t j ht h1 h2' => ?_, ?_, fun t => by rw [lo _ _ (by omega) (by omega)]; exact h4 t, by rw [lo _ _ (by omega) (by omega)]; exact h5, by rw [lo _ _ (by omega) (by omega)]; exact h6, fun t ht htb htn j h1 h2' => ?_, fun j hj hjl => ?_, l, e - 1, h9, ?_, ?_, ?_, by omega⟩
    · have hts : t ≠ s := fun q => hsb (by rw [← q]; exact ht)
      rw [hOff.1 t j hts h1 h2']; exact h2 t j ht h1 h2'
    · rw [copyT_lo (by omega), f4]
      intro q
      exact hmk ((i3_eq (by have := hSp.1; have := hB.1; omega) (by have := hB.1; omega)).mp q)
    · have hts : t ≠ s := fun q => by
        have := h7 t ht htb htn 2 (by omega) (by omega)
        rw [q, hs0] at this
        rw [q] at htn
        exact htn this.symm
      rw [hOff.1 t j hts h1 h2']; exact h7 t ht htb htn j h1 h2'
    · rcases Nat.lt_or_ge j i with c | c
      · obtain ⟨t, g1, g2, g3⟩ := h8 j c hjl
        have hts : t ≠ s := fun q => by
          have := g3 2 (by omega) (by omega)
          rw [q, hs0] at this
          exact live_ne hjl this.symm
        exact ⟨t, g1, g2, fun j' h1 h2' => by rw [hOff.1 t j' hts h1 h2']; exact g3 j' h1 h2'⟩
      · have e0 : j = i := by omega
        subst e0
        exact ⟨s, hst, hsb, fun j' h1 h2' => by rw [hCp.1 j' h1 h2']; exact h2 _ j' hob h1 h2'⟩
    · rw [copyT_lo (by omega), f6 k (fun q => hmk q.symm)]; exact h10
    · rw [copyT_lo (by omega), f7, h11, show (1 : Int32) = i3 1 from rfl, i3_sub (by omega)]
    · rw [cnt_s, if_pos hlv]; omega
theorem CI_skip (hlv : liveB D (k * C 0 1 + i) = false) (h : CI C L D E k i) : CI C L D E k (i + 1) := by
  obtain ⟨hI, h2, h3, h4, h5, h6, h7, h8, l, e, h9, h10, h11, h12, h13⟩ := h
  refine ⟨hI, h2, h3, h4, h5, h6, h7, fun j hj hjl => ?_, l, e, h9, h10, h11, ?_, h13⟩
  · rcases Nat.lt_or_ge j i with c | c
    · exact h8 j c hjl
    · have e0 : j = i := by omega
      rw [e0, hlv] at hjl; cases hjl
  · rw [cnt_s, if_neg (by rw [hlv]; decide)]; exact h12
end
