/-! ===== a block is erased ===== -/
section
variable {M : xM} {D E X Y Z T X' : xT} {C : xC} {R N : Nat → Int32} {fu b d L s o t k n m i j p q f l w nb nw a : Nat} {x y z v u : Int32} {nt : Bool}
theorem eraA_chg : ∀ {n : Nat}, k < n → (∀ k', k' < n → k' ≠ k → eraN E nw k' nw = eraN D nw k' nw) → eraA E nw n + eraN D nw k nw = eraA D nw n + eraN E nw k nw
  | 0, h, _ => absurd h (Nat.not_lt_zero _)
  | n + 1, h, h1 => by
    show eraA E nw n + eraN E nw n nw + eraN D nw k nw = eraA D nw n + eraN D nw n nw + eraN E nw k nw
    rcases Nat.lt_or_ge k n with c | c
    · have := eraA_chg c (fun k' hk hne => h1 k' (by omega) hne)
      rw [h1 n (by omega) (by omega)]
      omega
    · have e : k = n := by omega
      subst e
      have : ∀ m, m ≤ k → eraA E nw m = eraA D nw m := by
        intro m
        induction m with
        | zero => intro _; rfl
        | succ m ih => intro hm; show eraA E nw m + _ = eraA D nw m + _; rw [ih (by omega), h1 m (by omega) (by omega)]
      rw [this k (Nat.le_refl _)]
      omega
/-- what is left of a disk when block k is erased -/
def Wiped (C : xC) (D T : xT) (k : Nat) : Prop :=
  (∀ t j, 2 ≤ j → j ≤ 6 → (t < k * C 0 1 ∨ k * C 0 1 + C 0 1 ≤ t) → T j t = D j t) ∧ (∀ t, k * C 0 1 ≤ t → t < k * C 0 1 + C 0 1 → T 2 t = 0 ∧ T 3 t = -1 ∧ T 4 t = -1 ∧ T 5 t = -1 ∧ T 6 t = -1) ∧
  (∀ j t, (j = 7 ∨ j = 8 ∨ j = 9 ∨ j = 11 ∨ j = 12) → T j t = D j t) ∧ (∀ j, j ≠ 3 → T 15 j = D 15 j) ∧ T 14 1 = D 14 1 ∧ T 14 2 = D 14 2 ∧ T 14 10 = D 14 10 ∧ T 15 3 = D 15 3 + (D 15 1 - D 1 k) ∧ T 1 k = D 15 1 ∧ ∀ k', k' ≠ k → T 1 k' = D 1 k'
theorem wiped_erase : Wiped C D (up (up (eraseT D (C 0 1) k) 14 11 0) 14 3 v) k := by
  have e1 : ∀ j t, j ≠ 14 → up (up (eraseT D (C 0 1) k) 14 11 0) 14 3 v j t = eraseT D (C 0 1) k j t := fun j t h => by rw [up_ne (by omega), up_ne (by omega)]
  have e2 : ∀ j t, 2 ≤ j → j ≤ 6 → eraseT D (C 0 1) k j t = clrT (up (up D 15 3 (D 15 3 + (D 15 1 - D 1 k))) 1 k (D 15 1)) (k * C 0 1) (C 0 1) j t := fun j t h1 h2 => by unfold eraseT; exact up_ne (by omega)
  refine ⟨fun t j h1 h2 h3 => ?_, fun t h1 h2 => ?_, fun j t hj => ?_, fun j hj => ?_, ?_, ?_, ?_, ?_, ?_, fun k' hk => ?_⟩
  · rw [e1 _ _ (by omega), e2 _ _ h1 h2]
    unfold clrT
    rw [if_neg (by omega), up_ne (by omega), up_ne (by omega)]
  · rw [e1 _ _ (by omega), e1 _ _ (by omega), e1 _ _ (by omega), e1 _ _ (by omega), e1 _ _ (by omega), e2 _ _ (by omega) (by omega), e2 _ _ (by omega) (by omega), e2 _ _ (by omega) (by omega), e2 _ _ (by omega) (by omega), e2 _ _ (by omega) (by omega)]
    have q : ∀ j, 2 ≤ j → j ≤ 6 → clrT (up (up D 15 3 (D 15 3 + (D 15 1 - D 1 k))) 1 k (D 15 1)) (k * C 0 1) (C 0 1) j t = if j = 2 then 0 else -1 := fun j a b => by unfold clrT; rw [if_pos ⟨⟨a, b⟩, h1, h2⟩]
    exact ⟨q 2 (by omega) (by omega), q 3 (by omega) (by omega), q 4 (by omega) (by omega), q 5 (by omega) (by omega), q 6 (by omega) (by omega)⟩
  · rw [e1 _ _ (by omega), eraseT_lo (by omega) (by omega)]
  · rw [e1 _ _ (by omega), eraseT_lo (by omega) (by omega)]
  · rw [up_ne (by omega), up_ne (by omega), eraseT_lo (by omega) (by omega)]
  · rw [up_ne (by omega), up_ne (by omega), eraseT_lo (by omega) (by omega)]
  · rw [up_ne (by omega), up_ne (by omega), eraseT_lo (by omega) (by omega)]
  · rw [e1 _ _ (by omega)]
    unfold eraseT
    rw [up_ne (by omega), clrT_hi _ _ _ _ _ (by omega), up_ne (by omega), up_eq]
  · rw [e1 _ _ (by omega)]
    unfold eraseT
    rw [up_ne (by omega), clrT_hi _ _ _ _ _ (by omega), up_eq]
  · rw [e1 _ _ (by omega)]
    unfold eraseT
    rw [up_ne (by omega), clrT_hi _ _ _ _ _ (by omega), up_ne (by omega), up_ne (by omega)]
theorem Inv_wiped (hB : CB C) (hI : Inv C L D) (hk : k < C 0 0) (hh : D 15 4 ≠ i3 k) (hOk : Ok (C 0 0) (C 0 1) T) (hW : Wiped C D T k)
    (hc1 : ∀ p, p < wpN D → ∃ s, s < tot C ∧ (s < k * C 0 1 ∨ k * C 0 1 + C 0 1 ≤ s) ∧ D 2 s = 3 ∧ sq D s = bsN D + 1 - wpN D + p ∧ D 4 s = i3 p ∧ D 5 s = i3 (wpN D)) : Inv C L T := by
  obtain ⟨hO, hA, hN, hS, hM, hC, hOo, hIB⟩ := hI
  obtain ⟨w1, w2, w3, w4, w5, w6, w7, w8, w9, w10⟩ := hW
  have hT : tot C = C 0 0 * C 0 1 := rfl
  have h36 := tot36 hB
  have h6 := hB.1
  have h61 := hB.2.1
  have hBk := blk (nw := C 0 1) hk
  have hls : lsN T = lsN D := by unfold lsN; rw [w7]
  have hbs : bsN T = bsN D := by unfold bsN; rw [w4 5 (by decide)]
  have hwp : wpN T = wpN D := by unfold wpN; rw [w4 6 (by decide)]
  have hin : ∀ t, (t < k * C 0 1 ∨ k * C 0 1 + C 0 1 ≤ t) ∨ (k * C 0 1 ≤ t ∧ t < k * C 0 1 + C 0 1) := fun t => by omega
  have hsq : ∀ t, (t < k * C 0 1 ∨ k * C 0 1 + C 0 1 ≤ t) → sq T t = sq D t := fun t h => by unfold sq; rw [w1 t 3 (by omega) (by omega) h]
  have hpg : ∀ t, (t < k * C 0 1 ∨ k * C 0 1 + C 0 1 ≤ t) → pgT T t = pgT D t := fun t h => by unfold pgT; rw [w1 t 4 (by omega) (by omega) h, w1 t 5 (by omega) (by omega) h]
  have out : ∀ t, T 2 t ≠ 0 → (t < k * C 0 1 ∨ k * C 0 1 + C 0 1 ≤ t) := fun t h => by
    rcases hin t with q | q
    · exact q
    · exact absurd (w2 t q.1 q.2).1 h
  refine ⟨hOk, ?_, fun t ht => ?_, ?_, fun a ha => ?_, ⟨fun p hp => ?_, fun t ht hk3 hb => ?_, fun t1 t2 i j h1 h2 k1 k2 he hi hj l1 l2 hp => ?_, fun t1 t2 i h1 h2 k1 k2 hi hl he => ?_⟩, ?_, ?_⟩
  · unfold InA at hA ⊢
    rw [hls, hbs, hwp, w7, w4 5 (by decide), w4 6 (by decide)]
    exact hA
  · rcases hin t with q | q
    · exact node_congr (w1 t 2 (by omega) (by omega) q) (w1 t 3 (by omega) (by omega) q) (w1 t 4 (by omega) (by omega) q) (w1 t 5 (by omega) (by omega) q) (w1 t 6 (by omega) (by omega) q) (fun n hn => ⟨w3 7 _ (by omega), w3 8 _ (by omega)⟩) (by rw [hls]; exact Nat.le_refl _) (hN t ht)
    · exact Or.inl (w2 t q.1 q.2)
  · intro t1 t2 h1 h2 hn he
    have o1 := out t1 (isN_ne hn).1
    have hn' : isN D t1 := by unfold isN at hn ⊢; rw [w1 t1 2 (by omega) (by omega) o1] at hn; exact hn
    rw [w1 t1 3 (by omega) (by omega) o1] at he
    have o2 : t2 < k * C 0 1 ∨ k * C 0 1 + C 0 1 ≤ t2 := by
      rcases hin t2 with q | q
      · exact q
      · rw [(w2 t2 q.1 q.2).2.1, (node_seq (hN t1 h1) hn').1] at he
        exact absurd he (fun e => (i3_nn (xi_lt _)).mp e)
    rw [w1 t2 3 (by omega) (by omega) o2] at he
    have := hS t1 t2 h1 h2 hn' he
    rw [w1 t1 2 (by omega) (by omega) o1, w1 t2 2 (by omega) (by omega) o2, w1 t1 4 (by omega) (by omega) o1, w1 t2 4 (by omega) (by omega) o2, w1 t1 5 (by omega) (by omega) o1, w1 t2 5 (by omega) (by omega) o2, w1 t1 6 (by omega) (by omega) o1, w1 t2 6 (by omega) (by omega) o2]
    refine ⟨this.1, this.2.1, this.2.2.1, this.2.2.2.1, fun k i hi hl => ?_⟩
    rw [w3 7 _ (by omega), w3 7 _ (by omega), w3 8 _ (by omega), w3 8 _ (by omega)]
    exact this.2.2.2.2 k i hi hl
  · obtain ⟨m1, m2, m3⟩ := hM a ha
    rw [w3 9 a (by omega), hls]
    refine ⟨m1, m2, fun t ht hk1 he => ?_⟩
    have o1 := out t (by rw [hk1]; decide)
    rw [w1 t 2 (by omega) (by omega) o1] at hk1
    rw [w1 t 3 (by omega) (by omega) o1] at he
    rw [hpg t o1]; exact m3 t ht hk1 he
  · rw [hwp] at hp ⊢
    rw [hbs]
    obtain ⟨s, g1, g2, g3, g4, g5, g6⟩ := hc1 p hp
    exact ⟨s, g1, by rw [w1 s 2 (by omega) (by omega) g2]; exact g3, by rw [hsq s g2]; exact g4, by rw [w1 s 4 (by omega) (by omega) g2]; exact g5, by rw [w1 s 5 (by omega) (by omega) g2]; exact g6⟩
  · have o1 := out t (by rw [hk3]; decide)
    rw [w1 t 2 (by omega) (by omega) o1] at hk3
    rw [hbs, hsq t o1] at hb
    obtain ⟨p, hp, hno⟩ := hC.2.1 t ht hk3 hb
    rw [w1 t 5 (by omega) (by omega) o1]
    refine ⟨p, hp, fun t' ht' q => ?_⟩
    have o2 := out t' (by rw [q.1]; decide)
    rw [w1 t' 2 (by omega) (by omega) o2, hsq t' o2, hsq t o1, w1 t' 4 (by omega) (by omega) o2, w1 t 4 (by omega) (by omega) o1, w1 t' 5 (by omega) (by omega) o2] at q
    exact hno t' ht' q
  · have o1 := out t1 (by rw [k1]; decide)
    have o2 := out t2 (by rw [k2]; decide)
    rw [w1 t1 2 (by omega) (by omega) o1] at k1
    rw [w1 t2 2 (by omega) (by omega) o2] at k2
    rw [hsq t1 o1, hsq t2 o2, w1 t1 4 (by omega) (by omega) o1, w1 t2 4 (by omega) (by omega) o2] at he
    rw [w1 t1 6 (by omega) (by omega) o1] at l1
    rw [w1 t2 6 (by omega) (by omega) o2] at l2
    rw [w3 7 _ (by omega), w3 7 _ (by omega)] at hp
    rw [w3 8 _ (by omega), w3 8 _ (by omega)]
    exact hC.2.2.1 t1 t2 i j h1 h2 k1 k2 he hi hj l1 l2 hp
  · have o1 := out t1 (by rw [k1]; decide)
    have o2 := out t2 (by rw [k2]; decide)
    rw [w1 t1 2 (by omega) (by omega) o1] at k1
    rw [w1 t2 2 (by omega) (by omega) o2] at k2
    rw [w1 t1 6 (by omega) (by omega) o1] at hl
    rw [w1 t2 3 (by omega) (by omega) o2, w3 8 _ (by omega)] at he
    rw [hpg t2 o2, w3 7 _ (by omega)]
    exact hC.2.2.2 t1 t2 i h1 h2 k1 k2 hi hl he
  · obtain ⟨o1, o2, o3⟩ := hOo
    exact ⟨by rw [w5]; exact o1, by rw [w6]; exact o2, fun f hf => by rw [w3 11 _ (by omega), w3 12 _ (by omega)]; exact o3 f hf⟩
  · have other : ∀ k', k' < C 0 0 → k' ≠ k → ∀ i, i < C 0 1 → T 2 (k' * C 0 1 + i) = D 2 (k' * C 0 1 + i) := by
      intro k' hk' hne i hi
      refine w1 _ 2 (by omega) (by omega) ?_
      rcases Nat.lt_or_ge k' k with c | c
      · have := Nat.mul_le_mul_right (C 0 1) (show k' + 1 ≤ k from c)
        rw [Nat.succ_mul] at this
        omega
      · have := Nat.mul_le_mul_right (C 0 1) (show k + 1 ≤ k' by omega)
        rw [Nat.succ_mul] at this
        omega
    have keyk : ∀ i, i < C 0 1 → (T 2 (k * C 0 1 + i) = 0 ↔ C 0 1 - C 0 1 ≤ i) := fun i hi => ⟨fun _ => by omega, fun _ => (w2 _ (by omega) (by omega)).1⟩
    obtain ⟨l', l1, l2, l3, l4⟩ := hIB.2 k hk
    have hchg := eraA_chg (E := T) (D := D) (nw := C 0 1) hk (fun k' hk' hne => by unfold eraN; exact cnt_congr (fun i hi => by rw [other k' hk' hne i hi]))
    rw [era_l l1 l3, era_l (Nat.le_refl _) keyk] at hchg
    have hle := eraA_le (D := D) (nw := C 0 1) (C 0 0)
    refine ⟨?_, fun k' hk' => ?_⟩
    · rw [w8, hIB.1, l2, hO.2.2.2.1, i3_sub l1, i3_add]
      congr 1; omega
    · by_cases c : k' = k
      · subst c
        exact ⟨C 0 1, Nat.le_refl _, by rw [w9]; exact hO.2.2.2.1, keyk, Or.inr (Or.inr rfl)⟩
      · obtain ⟨l2', m1, m2, m3, m4⟩ := hIB.2 k' hk'
        exact ⟨l2', m1, by rw [w10 k' c]; exact m2, fun i hi => by rw [other k' hk' c i hi]; exact m3 i hi, by rw [w4 4 (by decide)]; exact m4⟩
end
