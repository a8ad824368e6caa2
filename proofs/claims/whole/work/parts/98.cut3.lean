section
variable {M : xM} {D E X Y Z T N X' E' E0 : xT} {C : xC} {R G G' : Nat → Int32} {fu b d L L' s o t k n m i j p q f l w nb nw a r g c e K P Q : Nat} {x y z v u : Int32} {nt : Bool}
theorem Inv_cuA (hI : Inv C L D) (hc : c ≤ 1000) : Inv C L (cutAs c D N) := by
  obtain ⟨hO, hA, hN, hS, hM, hC, hOo, hIB⟩ := hI
  have r : ∀ j k, (j < 14 ∨ j = 15) → cutAs c D N j k = D j k := fun j k h => cuA_r (by omega) (by omega)
  have h10 : cutAs c D N 14 10 = D 14 10 := cuA_r (by omega) (by omega)
  have h1 : cutAs c D N 14 1 = D 14 1 := cuA_r (by omega) (by omega)
  have h2 : cutAs c D N 14 2 = i3 c := cuA_2
  generalize cutAs c D N = F at *
  obtain ⟨i1, i2, i3', i4⟩ := In4_cg (fun j k a b => r j k (by omega)) h10 (r 15 5 (by omega)) (r 15 6 (by omega)) hA hN hS hC
  have hA2 : ∀ n, eraA F (C 0 1) n = eraA D (C 0 1) n := by
    intro n
    induction n with
    | zero => rfl
    | succ n ih => show eraA F (C 0 1) n + eraN F (C 0 1) n (C 0 1) = _ + _; rw [ih]; congr 1; unfold eraN; exact cnt_congr (fun i hi => by rw [r _ _ (by omega)])
  refine ⟨Ok_congr hO (fun j k q => r j k (by omega)), i1, i2, i3', fun a ha => ?_, i4, ⟨by rw [h1]; exact hOo.1, ⟨c, hc, h2⟩, fun f hf => by rw [r _ _ (by omega), r _ _ (by omega)]; exact hOo.2.2 f hf⟩, ?_⟩
  · have hls : lsN F = lsN D := by unfold lsN; rw [h10]
    have hpg : ∀ t, pgT F t = pgT D t := fun t => by unfold pgT; rw [r _ _ (by omega), r _ _ (by omega)]
    obtain ⟨m1, m2, m3⟩ := hM a ha
    rw [r _ _ (by omega), hls]
    refine ⟨m1, m2, fun t ht q1 q2 => ?_⟩
    rw [r _ _ (by omega)] at q1
    rw [r _ _ (by omega)] at q2
    rw [hpg]; exact m3 t ht q1 q2
  · obtain ⟨b1, b2⟩ := hIB
    refine ⟨by rw [hA2, r _ _ (by omega)]; exact b1, fun k hk => ?_⟩
    obtain ⟨l, l1, l2, l3, l4⟩ := b2 k hk
    exact ⟨l, l1, by rw [r _ _ (by omega)]; exact l2, fun i hi => by rw [r _ _ (by omega)]; exact l3 i hi, by rw [r _ _ (by omega)]; exact l4⟩
/-- the power is off for good: a mount finds what the note tells -/
def Dead (C : xC) (L : Nat) (T D : xT) (p : Nat) : Prop := D 14 1 = 0 ∧ Inv C L D ∧ ∀ a, a < 20 → findT D (tot C) 17 a = NS T p a
theorem put_step (hB : CB C) (hI : Inv C L D) (he : ¬ D 15 3 = 0) (h2 : D 14 2 = 0) (hE : InE D P K) (hP : P < 288) (hc : 1 ≤ c) (hc2 : c ≤ 1000) :
    ∃ s T K', putT true D (C 0 0) (C 0 1) = (some s, T) ∧ InE T (P + 1) K' ∧ (∀ p, p < P → ∀ a, a < 20 → NS T p a = NS D p a) ∧ T 14 2 = 0 ∧
      ((2 ≤ c ∧ putT false (cutAs c D N) (C 0 0) (C 0 1) = (some s, cutAs (c - 1) T N)) ∨
       (c = 1 ∧ ∃ Tc, putT false (cutAs c D N) (C 0 0) (C 0 1) = (none, Tc) ∧ Dead C L T Tc P)) := by
  have hIc := Inv_cuA (N := N) hI hc2
  have hec : ¬ cutAs c D N 15 3 = 0 := by rw [cuA_r (by omega) (by omega)]; exact he
  obtain ⟨k, l, sp1, sp2, sp3⟩ := take_spot hB hI.1 hI.2.2.2.2.2.2.2 he
  have htc : takeT (cutAs c D N) (C 0 0) (C 0 1) = (some (k * C 0 1 + (C 0 1 - l)), cutAs c (takeD D k) N) := by rw [take_cb, sp2]
  have hTo : ∀ j k', (j < 14 ∧ j ≠ 1 ∨ j = 14 ∨ 15 < j ∨ j = 15 ∧ k' ≠ 3 ∧ k' ≠ 4) → takeD D k j k' = D j k' := fun j k' h => takeD_o (by omega)
  have u2 : noteT (findT (up (takeD D k) 14 11 0) (C 0 0 * C 0 1)) 14 2 = 0 := by rw [noteT_lo (by omega), findT_lo (by omega), up_ne (by omega), hTo _ _ (by omega)]; exact h2
  obtain ⟨hE1, hS1⟩ := InE_cg (E := findT (up (takeD D k) 14 11 0) (C 0 0 * C 0 1)) (fun j k' q1 q2 => by rw [findT_lo (by omega), up_ne (by omega), hTo _ _ (by omega)]) hE
  obtain ⟨K', n1, n2, n3⟩ := note_is hE1 hP
  have hput : putT true D (C 0 0) (C 0 1) = (some (k * C 0 1 + (C 0 1 - l)), noteT (findT (up (takeD D k) 14 11 0) (C 0 0 * C 0 1))) := by
    unfold putT
    rw [sp2]
    simp only
    unfold putA
    simp only [if_true, u2]
    rw [if_neg (by decide), if_pos (by decide)]
  have hfind : ∀ a, findT (up (takeD D k) 14 11 0) (C 0 0 * C 0 1) 17 a = findT D (C 0 0 * C 0 1) 17 a := fun a =>
    find_agr ⟨fun j k' hj => by rw [up_ne (by omega), hTo _ _ (by omega)], by rw [up_ne (by omega), hTo _ _ (by omega)], by rw [up_ne (by omega), hTo _ _ (by omega)]⟩ (by omega)
  refine ⟨k * C 0 1 + (C 0 1 - l), _, K', hput, n1, fun p hp a ha => by rw [n2 p hp a ha, hS1], u2, ?_⟩
  have e11 : up (cutAs c (takeD D k) N) 14 11 0 = cutAs c (up (takeD D k) 14 11 0) N := cuA_up (by omega) (by omega)
  by_cases c1 : c = 1
  · subst c1
    right
    have h3 : Okd 3 (C 0 0) (C 0 1) (cutAs 1 D N) := Okd3 hIc
    have hPk := putT_ok (nt := false) h3
    obtain ⟨k1, l1, hSp, hh, hst, hs0, hput2⟩ := put_frame hB hIc hec false
    rcases hput2 with ⟨hcc, ep⟩ | ⟨hcc, -⟩
    · refine ⟨rfl, _, ep, ?_⟩
      rw [ep] at hPk
      have hIt := Inv_torn hB hIc hSp hh rfl hst hs0 hPk.1.1
      have tk : takeD (cutAs 1 D N) k1 = takeD (cutAs 1 D N) k1 := rfl
      have fr : ∀ j t, (2 ≤ j ∧ j ≤ 8) → (6 < j ∨ t ≠ k1 * C 0 1 + (C 0 1 - l1)) → tornT (putA false (takeD (cutAs 1 D N) k1) (C 0 0) (C 0 1)) (k1 * C 0 1 + (C 0 1 - l1)) j t = D j t := by
        intro j t hj ht
        unfold tornT
        rw [forgetT_lo (by omega), up_ne (by omega), up_ne (by omega), fillT_lo (by omega), putA_lo (by omega), takeD_o (by omega), cuA_r (by omega) (by omega)]
      have f4 : tornT (putA false (takeD (cutAs 1 D N) k1) (C 0 0) (C 0 1)) (k1 * C 0 1 + (C 0 1 - l1)) 2 (k1 * C 0 1 + (C 0 1 - l1)) = 4 := by
        unfold tornT
        rw [forgetT_lo (by omega), up_ne (by omega), up_ne (by omega), fillT_2]
      have f141 : tornT (putA false (takeD (cutAs 1 D N) k1) (C 0 0) (C 0 1)) (k1 * C 0 1 + (C 0 1 - l1)) 14 1 = 0 := by
        unfold tornT
        rw [forgetT_lo (by omega), up_ne (by omega), up_eq]
      have f15 : ∀ k', k' = 5 ∨ k' = 6 → tornT (putA false (takeD (cutAs 1 D N) k1) (C 0 0) (C 0 1)) (k1 * C 0 1 + (C 0 1 - l1)) 15 k' = D 15 k' := by
        intro k' hk'
        unfold tornT
        rw [forgetT_lo (by omega), up_ne (by omega), up_ne (by omega), fillT_lo (by omega), putA_lo (by omega), takeD_o (by omega), cuA_r (by omega) (by omega)]
      have f10 : tornT (putA false (takeD (cutAs 1 D N) k1) (C 0 0) (C 0 1)) (k1 * C 0 1 + (C 0 1 - l1)) 14 10 = D 14 10 := by
        unfold tornT
        rw [forgetT_lo (by omega), up_ne (by omega), up_ne (by omega), fillT_lo (by omega), putA_lo (by omega), takeD_o (by omega), cuA_r (by omega) (by omega)]
      rw [cuA_r (by omega) (by omega)] at hs0
      generalize tornT (putA false (takeD (cutAs 1 D N) k1) (C 0 0) (C 0 1)) (k1 * C 0 1 + (C 0 1 - l1)) = Tc at *
      have hsame : SameN C Tc D := by
        intro o ho
        by_cases co : o = k1 * C 0 1 + (C 0 1 - l1)
        · have a1 : ¬ isN Tc o := fun q => (isN_ne q).2 (by rw [co]; exact f4)
          have a2 : ¬ isN D o := fun q => (isN_ne q).1 (by rw [co]; exact hs0)
          exact ⟨⟨fun q => absurd q a1, fun q => absurd q a2⟩, fun q => absurd q a2⟩
        · have e2 := fr 2 o (by omega) (Or.inr co)
          refine ⟨by unfold isN; rw [e2], fun _ => ⟨e2, fr 3 o (by omega) (Or.inr co), fr 4 o (by omega) (Or.inr co), fr 5 o (by omega) (Or.inr co), fr 6 o (by omega) (Or.inr co), fun i hi => ⟨fr 7 _ (by omega) (Or.inl (by omega)), fr 8 _ (by omega) (Or.inl (by omega))⟩⟩⟩
      refine ⟨f141, hIt, fun a ha => ?_⟩
      rw [n3 a ha, hfind a]
      exact (says_eq hB hI hIt hsame (f15 5 (Or.inl rfl)) (f15 6 (Or.inr rfl)) f10 ha).2
    · exact absurd (show cutAs 1 D N 14 2 = 1 from cuA_2) hcc
  · left
    refine ⟨by omega, ?_⟩
    unfold putT
    rw [htc]
    simp only
    unfold putA
    simp only [Bool.false_eq_true, if_false]
    have q1 : ¬ i3 c = 1 := fun q => c1 ((i3_eq (b := 1) (by omega) (by omega)).mp q)
    have q2 : ¬ i3 c ≤ 1 := fun q => by have := (i3_le (b := 1) (by omega) (by omega)).mp q; omega
    rw [e11, cuA_2, if_neg q1, if_neg q2]
    rw [show i3 c - 1 = i3 (c - 1) from i3_sub (a := c) (b := 1) (by omega), cuA_cut]
    congr 1
    exact (cuA_cg (fun j k' q1 q2 => by rw [noteT_lo (by omega), findT_lo (by omega)])).symm
end
