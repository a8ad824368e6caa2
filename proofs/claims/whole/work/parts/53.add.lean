/-! ===== nodes are added ===== -/
/-- all slots but one are as they were -/
def Off (D E : xT) (s : Nat) : Prop := (∀ t j, t ≠ s → 2 ≤ j → j ≤ 6 → E j t = D j t) ∧ (∀ t n, t ≠ s → n < 4 → E 7 (t * 4 + n) = D 7 (t * 4 + n) ∧ E 8 (t * 4 + n) = D 8 (t * 4 + n)) ∧ E 14 10 = D 14 10 ∧ E 15 5 = D 15 5 ∧ E 15 6 = D 15 6
section
variable {M : xM} {D E X Y Z : xT} {C : xC} {R N : Nat → Int32} {fu b d L s o t k n m i j p q f l w nb nw a : Nat} {x y z v u : Int32}
theorem node_congr (h2 : E 2 t = D 2 s) (h3 : E 3 t = D 3 s) (h4 : E 4 t = D 4 s) (h5 : E 5 t = D 5 s) (h6 : E 6 t = D 6 s) (h7 : ∀ n, n < 4 → E 7 (t * 4 + n) = D 7 (s * 4 + n) ∧ E 8 (t * 4 + n) = D 8 (s * 4 + n)) (hl : lsN D ≤ lsN E) (h : NodeOK C D s) : NodeOK C E t := by
  have hq : sq E t = sq D s := by unfold sq; rw [h3]
  unfold NodeOK
  rw [h2, h3, h4, h5, h6, hq]
  rcases h with r | r | ⟨r1, r2, r3, r4⟩
  · exact Or.inl r
  · exact Or.inr (Or.inl r)
  · refine Or.inr (Or.inr ⟨r1, r2, Nat.le_trans r3 hl, ?_⟩)
    rcases r4 with r | r | ⟨r5, p, n, c, g1, g2, g3, g4, g5, g6, g7, g8⟩
    · exact Or.inl r
    · exact Or.inr (Or.inl r)
    · refine Or.inr (Or.inr ⟨r5, p, n, c, g1, g2, g3, g4, g5, g6, g7, fun i hi => ?_⟩)
      obtain ⟨z, q, k1, k2, k3, k4⟩ := g8 i hi
      have := h7 i (by omega)
      exact ⟨z, q, k1, by rw [this.1, k2], by rw [this.2, k3], k4⟩
theorem off_ls (h : Off D E s) : lsN E = lsN D := by unfold lsN; rw [h.2.2.1]
theorem off_bs (h : Off D E s) : bsN E = bsN D := by unfold bsN; rw [h.2.2.2.1]
theorem off_wp (h : Off D E s) : wpN E = wpN D := by unfold wpN; rw [h.2.2.2.2]
theorem off_sq (h : Off D E s) (ht : t ≠ s) : sq E t = sq D t := by unfold sq; rw [h.1 t 3 ht (by omega) (by omega)]
theorem InA_off (h : Off D E s) (hA : InA L D) : InA L E := by
  unfold InA at hA ⊢
  rw [off_ls h, off_bs h, off_wp h, h.2.2.1, h.2.2.2.1, h.2.2.2.2]
  exact hA
theorem InN_add (h : Off D E s) (hN : InN C D) (hs : NodeOK C E s) : InN C E := by
  intro t ht
  by_cases c : t = s
  · rw [c]; exact hs
  · exact node_congr (h.1 t 2 c (by omega) (by omega)) (h.1 t 3 c (by omega) (by omega)) (h.1 t 4 c (by omega) (by omega)) (h.1 t 5 c (by omega) (by omega)) (h.1 t 6 c (by omega) (by omega)) (fun n hn => h.2.1 t n c hn) (by rw [off_ls h]; exact Nat.le_refl _) (hN t ht)
theorem isN_off (h : Off D E s) (ht : t ≠ s) : isN E t = isN D t := by unfold isN; rw [h.1 t 2 ht (by omega) (by omega)]
/-- no node has that number yet -/
def Fresh (C : xC) (D : xT) (q : Nat) : Prop := ∀ t, t < tot C → isN D t → sq D t ≠ q
theorem InS_fresh (h : Off D E s) (hN : InN C D) (hS : InS C D) (hq : E 3 s = i3 q) (hq2 : q < 2147483648) (hF : Fresh C D q) : InS C E := by
  have notq : ∀ t, t < tot C → t ≠ s → ¬ E 3 t = i3 q := by
    intro t ht hts e
    rw [h.1 t 3 hts (by omega) (by omega)] at e
    by_cases c : isN D t
    · have := (node_seq (hN t ht) c).1
      rw [this] at e
      exact hF t ht c ((i3_eq (xi_lt _) hq2).mp e)
    · rw [node_not (hN t ht) c] at e
      exact (i3_nn hq2).mp e.symm
  intro t1 t2 h1 h2 hn he
  by_cases c1 : t1 = s
  · by_cases c2 : t2 = s
    · subst c1; subst c2
      exact ⟨rfl, rfl, rfl, rfl, fun _ i _ _ => ⟨rfl, rfl⟩⟩
    · exfalso
      rw [c1, hq] at he
      exact notq t2 h2 c2 he.symm
  · by_cases c2 : t2 = s
    · exfalso
      rw [c2, hq] at he
      exact notq t1 h1 c1 he
    · rw [isN_off h c1] at hn
      rw [h.1 t1 3 c1 (by omega) (by omega), h.1 t2 3 c2 (by omega) (by omega)] at he
      rw [h.1 t1 2 c1 (by omega) (by omega), h.1 t2 2 c2 (by omega) (by omega), h.1 t1 4 c1 (by omega) (by omega), h.1 t2 4 c2 (by omega) (by omega), h.1 t1 5 c1 (by omega) (by omega), h.1 t2 5 c2 (by omega) (by omega), h.1 t1 6 c1 (by omega) (by omega), h.1 t2 6 c2 (by omega) (by omega)]
      have := hS t1 t2 h1 h2 hn he
      refine ⟨this.1, this.2.1, this.2.2.1, this.2.2.2.1, fun k i hi hl => ?_⟩
      rw [(h.2.1 t1 i c1 hi).1, (h.2.1 t1 i c1 hi).2, (h.2.1 t2 i c2 hi).1, (h.2.1 t2 i c2 hi).2]
      exact this.2.2.2.2 k i hi hl
/-- what stands at s now is a copy of what stands at o -/
def Copy (D E : xT) (s o : Nat) : Prop := (∀ j, 2 ≤ j → j ≤ 6 → E j s = D j o) ∧ ∀ n, n < 4 → E 7 (s * 4 + n) = D 7 (o * 4 + n) ∧ E 8 (s * 4 + n) = D 8 (o * 4 + n)
/-- the slot of D that a slot of E is like -/
def src (s o t : Nat) : Nat := if t = s then o else t
theorem copy_f (h : Off D E s) (hc : Copy D E s o) (hj : 2 ≤ j) (hj2 : j ≤ 6) : E j t = D j (src s o t) := by
  unfold src
  by_cases c : t = s
  · rw [if_pos c, c]; exact hc.1 j hj hj2
  · rw [if_neg c]; exact h.1 t j c hj hj2
theorem copy_e (h : Off D E s) (hc : Copy D E s o) (hn : n < 4) : E 7 (t * 4 + n) = D 7 (src s o t * 4 + n) ∧ E 8 (t * 4 + n) = D 8 (src s o t * 4 + n) := by
  unfold src
  by_cases c : t = s
  · rw [if_pos c, c]; exact hc.2 n hn
  · rw [if_neg c]; exact h.2.1 t n c hn
theorem src_lt (ho : o < tot C) (ht : t < tot C) : src s o t < tot C := by unfold src; split <;> assumption
theorem copy_sq (h : Off D E s) (hc : Copy D E s o) : sq E t = sq D (src s o t) := by unfold sq; rw [copy_f h hc (by omega) (by omega)]
theorem copy_pg (h : Off D E s) (hc : Copy D E s o) : pgT E t = pgT D (src s o t) := by unfold pgT; rw [copy_f h hc (by omega) (by omega), copy_f h hc (by omega) (by omega)]
theorem InN_copy (h : Off D E s) (hc : Copy D E s o) (ho : o < tot C) (hN : InN C D) : InN C E := fun t ht =>
  node_congr (copy_f h hc (by omega) (by omega)) (copy_f h hc (by omega) (by omega)) (copy_f h hc (by omega) (by omega)) (copy_f h hc (by omega) (by omega)) (copy_f h hc (by omega) (by omega)) (fun n hn => copy_e h hc hn) (by rw [off_ls h]; exact Nat.le_refl _) (hN (src s o t) (src_lt ho ht))
theorem InS_copy (h : Off D E s) (hc : Copy D E s o) (ho : o < tot C) (hS : InS C D) : InS C E := by
  intro t1 t2 h1 h2 hn he
  have hn' : isN D (src s o t1) := by unfold isN at hn ⊢; rw [copy_f h hc (by omega) (by omega)] at hn; exact hn
  rw [copy_f h hc (by omega) (by omega), copy_f h hc (by omega) (by omega)] at he
  have := hS _ _ (src_lt ho h1) (src_lt ho h2) hn' he
  rw [copy_f (t := t1) (j := 2) h hc (by omega) (by omega), copy_f (t := t2) (j := 2) h hc (by omega) (by omega), copy_f (t := t1) (j := 4) h hc (by omega) (by omega), copy_f (t := t2) (j := 4) h hc (by omega) (by omega), copy_f (t := t1) (j := 5) h hc (by omega) (by omega), copy_f (t := t2) (j := 5) h hc (by omega) (by omega), copy_f (t := t1) (j := 6) h hc (by omega) (by omega), copy_f (t := t2) (j := 6) h hc (by omega) (by omega)]
  refine ⟨this.1, this.2.1, this.2.2.1, this.2.2.2.1, fun k i hi hl => ?_⟩
  rw [(copy_e (t := t1) h hc hi).1, (copy_e (t := t1) h hc hi).2, (copy_e (t := t2) h hc hi).1, (copy_e (t := t2) h hc hi).2]
  exact this.2.2.2.2 k i hi hl
theorem InM_copy (h : Off D E s) (hc : Copy D E s o) (ho : o < tot C) (hm : ∀ a, a < 20 → E 9 a = D 9 a) (hM : InM C D) : InM C E := by
  intro a ha
  obtain ⟨m1, m2, m3⟩ := hM a ha
  rw [hm a ha, off_ls h]
  refine ⟨m1, m2, fun t ht hk he => ?_⟩
  rw [copy_f h hc (by omega) (by omega)] at hk he
  rw [copy_pg h hc]
  exact m3 _ (src_lt ho ht) hk he
theorem InC_copy (h : Off D E s) (hc : Copy D E s o) (ho : o < tot C) (hs0 : D 2 s = 0) (hC : InC C D) : InC C E := by
  obtain ⟨c1, c2, c3, c4⟩ := hC
  refine ⟨fun p hp => ?_, fun t ht hk hb => ?_, fun t1 t2 i j h1 h2 k1 k2 he hi hj l1 l2 hp => ?_, fun t1 t2 i h1 h2 k1 k2 hi hl he => ?_⟩
  · rw [off_wp h] at hp ⊢
    rw [off_bs h]
    obtain ⟨t, ht, t1, t2, t3, t4⟩ := c1 p hp
    have hts : t ≠ s := fun q => by rw [q, hs0] at t1; exact absurd t1 (by decide)
    exact ⟨t, ht, by rw [h.1 t 2 hts (by omega) (by omega)]; exact t1, by rw [off_sq h hts]; exact t2, by rw [h.1 t 4 hts (by omega) (by omega)]; exact t3, by rw [h.1 t 5 hts (by omega) (by omega)]; exact t4⟩
  · rw [copy_f h hc (by omega) (by omega)] at hk
    rw [off_bs h, copy_sq h hc] at hb
    obtain ⟨p, hp, hno⟩ := c2 _ (src_lt ho ht) hk hb
    rw [copy_f (j := 5) h hc (by omega) (by omega)]
    refine ⟨p, hp, fun t' ht' q => hno (src s o t') (src_lt ho ht') ?_⟩
    rw [copy_f (j := 2) h hc (by omega) (by omega), copy_sq h hc, copy_sq h hc, copy_f (j := 4) h hc (by omega) (by omega), copy_f (j := 4) h hc (by omega) (by omega), copy_f (j := 5) h hc (by omega) (by omega)] at q
    exact q
  · rw [copy_f h hc (by omega) (by omega)] at k1 k2 l1 l2
    rw [copy_sq h hc, copy_sq h hc, copy_f (j := 4) h hc (by omega) (by omega), copy_f (j := 4) h hc (by omega) (by omega)] at he
    rw [(copy_e h hc hi).1, (copy_e h hc hj).1] at hp
    rw [(copy_e h hc hi).2, (copy_e h hc hj).2]
    exact c3 _ _ i j (src_lt ho h1) (src_lt ho h2) k1 k2 he hi hj l1 l2 hp
  · rw [copy_f h hc (by omega) (by omega)] at k1 k2 hl
    rw [copy_f h hc (by omega) (by omega), (copy_e h hc hi).2] at he
    rw [copy_pg h hc, (copy_e h hc hi).1]
    exact c4 _ _ i (src_lt ho h1) (src_lt ho h2) k1 k2 hi hl he
/-- a new node that is no INDEX -/
theorem InC_fresh (h : Off D E s) (hs0 : D 2 s = 0) (hk3 : E 2 s ≠ 3) (hN : InN C D) (hst : s < tot C) (hnew : E 2 s = 1 → ∃ q, E 3 s = i3 q ∧ q < 2147483648 ∧ ∀ t, t < tot C → isN D t → sq D t < q) (hC : InC C D) : InC C E := by
  obtain ⟨c1, c2, c3, c4⟩ := hC
  refine ⟨fun p hp => ?_, fun t ht hk hb => ?_, fun t1 t2 i j h1 h2 k1 k2 he hi hj l1 l2 hp => ?_, fun t1 t2 i h1 h2 k1 k2 hi hl he => ?_⟩
  · rw [off_wp h] at hp ⊢
    rw [off_bs h]
    obtain ⟨t, ht, t1, t2, t3, t4⟩ := c1 p hp
    have hts : t ≠ s := fun q => by rw [q, hs0] at t1; exact absurd t1 (by decide)
    exact ⟨t, ht, by rw [h.1 t 2 hts (by omega) (by omega)]; exact t1, by rw [off_sq h hts]; exact t2, by rw [h.1 t 4 hts (by omega) (by omega)]; exact t3, by rw [h.1 t 5 hts (by omega) (by omega)]; exact t4⟩
  · have hts : t ≠ s := fun q => hk3 (by rw [← q]; exact hk)
    rw [h.1 t 2 hts (by omega) (by omega)] at hk
    rw [off_bs h, off_sq h hts] at hb
    obtain ⟨p, hp, hno⟩ := c2 t ht hk hb
    rw [h.1 t 5 hts (by omega) (by omega)]
    refine ⟨p, hp, fun t' ht' q => ?_⟩
    have hts' : t' ≠ s := fun r => hk3 (by rw [← r]; exact q.1)
    rw [h.1 t' 2 hts' (by omega) (by omega), off_sq h hts', off_sq h hts, h.1 t' 4 hts' (by omega) (by omega), h.1 t 4 hts (by omega) (by omega), h.1 t' 5 hts' (by omega) (by omega)] at q
    exact hno t' ht' q
  · have n1 : t1 ≠ s := fun q => hk3 (by rw [← q]; exact k1)
    have n2 : t2 ≠ s := fun q => hk3 (by rw [← q]; exact k2)
    rw [h.1 t1 2 n1 (by omega) (by omega)] at k1
    rw [h.1 t2 2 n2 (by omega) (by omega)] at k2
    rw [off_sq h n1, off_sq h n2, h.1 t1 4 n1 (by omega) (by omega), h.1 t2 4 n2 (by omega) (by omega)] at he
    rw [h.1 t1 6 n1 (by omega) (by omega)] at l1
    rw [h.1 t2 6 n2 (by omega) (by omega)] at l2
    rw [(h.2.1 t1 i n1 hi).1, (h.2.1 t2 j n2 hj).1] at hp
    rw [(h.2.1 t1 i n1 hi).2, (h.2.1 t2 j n2 hj).2]
    exact c3 t1 t2 i j h1 h2 k1 k2 he hi hj l1 l2 hp
  · have n1 : t1 ≠ s := fun q => hk3 (by rw [← q]; exact k1)
    rw [h.1 t1 2 n1 (by omega) (by omega)] at k1
    rw [h.1 t1 6 n1 (by omega) (by omega)] at hl
    rw [(h.2.1 t1 i n1 hi).2] at he
    rw [(h.2.1 t1 i n1 hi).1]
    by_cases c : t2 = s
    · exfalso
      rw [c] at k2 he
      obtain ⟨q, q1, q2, q3⟩ := hnew k2
      obtain ⟨g1, g2, g3, p, n, cc, g4, g5, g6, g7, g8, g9, g10, g11⟩ := idx_node hN h1 k1
      rw [g10, i3_lt (by omega) (by omega)] at hl
      obtain ⟨zz, qq, k5, k6, k7, k8, k9⟩ := g11 i hl
      have h5 := q3 t1 h1 (Or.inr (Or.inr k1))
      rw [q1, k7] at he
      have := (i3_eq q2 (by omega)).mp he
      omega
    · rw [h.1 t2 2 c (by omega) (by omega)] at k2
      rw [h.1 t2 3 c (by omega) (by omega)] at he
      have e : pgT E t2 = pgT D t2 := by unfold pgT; rw [h.1 t2 4 c (by omega) (by omega), h.1 t2 5 c (by omega) (by omega)]
      rw [e]
      exact c4 t1 t2 i h1 h2 k1 k2 hi hl he
theorem InM_fresh (h : Off D E s) (hm : ∀ a, a < 20 → E 9 a = D 9 a) (hnew : E 2 s = 1 → ∀ a, a < 20 → E 9 a = E 3 s → pgT E s = a) (hM : InM C D) : InM C E := by
  intro a ha
  obtain ⟨m1, m2, m3⟩ := hM a ha
  refine ⟨by rw [hm a ha]; exact m1, by rw [hm a ha, off_ls h]; exact m2, fun t ht hk he => ?_⟩
  by_cases c : t = s
  · rw [c] at hk he ⊢
    exact hnew hk a ha he
  · rw [h.1 t 2 c (by omega) (by omega)] at hk
    rw [hm a ha, h.1 t 3 c (by omega) (by omega)] at he
    have e : pgT E t = pgT D t := by unfold pgT; rw [h.1 t 4 c (by omega) (by omega), h.1 t 5 c (by omega) (by omega)]
    rw [e]
    exact m3 t ht hk he
end
