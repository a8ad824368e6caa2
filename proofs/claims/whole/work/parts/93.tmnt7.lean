/-! ===== a mount, both sides, whole ===== -/
section
variable {M : xM} {D E X Y Z T P X' E' E0 E'' X'' : xT} {C : xC} {R N G G' : Nat → Int32} {fu b d L L' s o t k n m i j p q f l w nb nw a at' r g c e : Nat} {x y z v u : Int32} {nt : Bool}
theorem lst_cg {p1 p2 : Nat → Bool} : ∀ {n}, (∀ i, i < n → p1 i = p2 i) → lst p1 n = lst p2 n
  | 0, _ => rfl
  | n + 1, h => by
    unfold lst
    rw [lst_cg (fun i hi => h i (by omega)), h n (by omega)]
theorem mount_lo (h1 : j ≠ 10) (h2 : j ≠ 13) (h3 : j ≠ 14 ∨ k ≠ 11 ∧ k ≠ 14 ∧ k ≠ 15) : mountT D nb nw j k = mnt2 D nb nw j k := by
  rw [mount_2]
  exact surveyT_lo (by omega)
theorem mount_n (hj : j ≤ 8 ∨ j = 15 ∧ k ≠ 4) : mountT D nb nw j k = D j k := by
  rw [mount_lo (by omega) (by omega) (by omega), mnt2_is (G := fun k => findT D (nb * nw) 16 k) (fun k _ => rfl) (by omega) (by omega)]
  rcases hj with hj | ⟨rfl, hk⟩
  · exact mn_n hj
  · exact mn_15 hk
theorem mount_9 (hk : k < 20) : mountT D nb nw 9 k = findT D (nb * nw) 16 k := by
  rw [mount_lo (by omega) (by omega) (by omega), mnt2_is (G := fun k => findT D (nb * nw) 16 k) (fun k _ => rfl) (by omega) (by omega), mn_9 hk]
theorem mount_1410 : mountT D nb nw 14 10 = greatT D (nb * nw) := by
  rw [mount_lo (by omega) (by omega) (by omega), mnt2_is (G := fun k => findT D (nb * nw) 16 k) (fun k _ => rfl) (by omega) (by omega), mn_1410]
theorem mount_154 : mountT D nb nw 15 4 = on (begunT D nb) := by
  rw [mount_lo (by omega) (by omega) (by omega), mnt2_is (G := fun k => findT D (nb * nw) 16 k) (fun k _ => rfl) (by omega) (by omega), mn_144]
theorem mount_141 : mountT D nb nw 14 1 = 1 ∧ mountT D nb nw 14 2 = 0 ∧ (∀ f, f < 5 → mountT D nb nw 11 f = 0 ∧ mountT D nb nw 12 f = 0) := by
  have e : ∀ j k, (j = 11 ∨ j = 12 ∨ j = 14 ∧ (k = 1 ∨ k = 2)) → mountT D nb nw j k = mnT D (fun k => findT D (nb * nw) 16 k) (greatT D (nb * nw)) (on (begunT D nb)) j k := fun j k h => by
    rw [mount_lo (by omega) (by omega) (by omega), mnt2_is (G := fun k => findT D (nb * nw) 16 k) (fun k _ => rfl) (by omega) (by omega)]
  refine ⟨(e 14 1 (by omega)).trans ?_, (e 14 2 (by omega)).trans ?_, fun f hf => ⟨(e 11 f (by omega)).trans ?_, (e 12 f (by omega)).trans ?_⟩⟩ <;> unfold mnT
  · rw [if_neg (by omega), if_neg (by omega), if_pos ⟨rfl, rfl⟩]
  · rw [if_neg (by omega), if_neg (by omega), if_neg (by omega), if_pos ⟨rfl, rfl⟩]
  · rw [if_neg (by omega), if_pos ⟨Or.inl rfl, hf⟩]
  · rw [if_neg (by omega), if_pos ⟨Or.inr rfl, hf⟩]
theorem InV_mount (hB : CB C) : InV C (mountT D (C 0 0) (C 0 1)) := by
  rw [mount_2]
  exact InV_survey hB (Or.inl mnt2_11)
theorem mount_jour : mountT D nb nw 14 15 = i3 (cnt (jourB D) (nb * nw)) := by
  rw [mount_2]
  unfold surveyT
  rw [if_pos mnt2_11]
  unfold survS
  rw [if_pos ⟨rfl, rfl⟩]
  have e2 : mnt2 D nb nw 2 = D 2 := funext fun k => (mnt2_is (G := fun k => findT D (nb * nw) 16 k) (fun k _ => rfl) (by omega) (by omega)).trans (mn_n (by omega))
  have e3 : mnt2 D nb nw 3 = D 3 := funext fun k => (mnt2_is (G := fun k => findT D (nb * nw) 16 k) (fun k _ => rfl) (by omega) (by omega)).trans (mn_n (by omega))
  have e5 : mnt2 D nb nw 15 5 = D 15 5 := (mnt2_is (G := fun k => findT D (nb * nw) 16 k) (fun k _ => rfl) (by omega) (by omega)).trans (mn_15 (by omega))
  congr 2
  funext s
  unfold jourB isJourT isLeastT
  rw [e2, e3, e5]
/-- the numbers that are mapped stand -/
theorem MapIs_is (hI : Inv C L D) (hm : ∀ o, o < tot C → isN D o → sq D o ≤ m) (h : MapIs C D n a r) : r ≤ m ∧ ∀ t, t < tot C → D 2 t = 1 → sq D t = r → pgT D t = a := by
  obtain ⟨hO, hA, hN, hS, hM, hC, hOo, hIB⟩ := hI
  have key : DAl D (tot C) a r → r ≤ m ∧ ∀ t, t < tot C → D 2 t = 1 → sq D t = r → pgT D t = a := by
    rintro ⟨s, s1, s2, s3, s4⟩
    refine ⟨by have := hm s s1 (Or.inl s2); omega, fun t t1 t2 t3 => ?_⟩
    have h1 := (node_seq (hN s s1) (Or.inl s2)).1
    have h2 := (node_seq (hN t t1) (Or.inl t2)).1
    obtain ⟨-, e4, e5, -⟩ := hS s t s1 t1 (Or.inl s2) (by rw [h1, h2, s4, t3])
    rw [← s3]
    unfold pgT
    rw [e4, e5]
  have zero : r = 0 → r ≤ m ∧ ∀ t, t < tot C → D 2 t = 1 → sq D t = r → pgT D t = a := by
    intro e
    refine ⟨by omega, fun t t1 t2 t3 => ?_⟩
    have := (node_seq (hN t t1) (Or.inl t2)).2.1
    omega
  rcases h with ⟨-, -, a3, -⟩ | ⟨a1, -⟩ | ⟨-, ⟨-, a2, -⟩ | ⟨a1, -⟩⟩
  · exact key a3
  · exact zero a1
  · exact key a2
  · exact zero a1
theorem Inv_mount (hB : CB C) (hI : Inv C L D) : Inv C L (mountT D (C 0 0) (C 0 1)) := by
  have hI' := hI
  have hOk := (Okd_mount (Okd3 hI)).1
  obtain ⟨m, m1, m2, m3, m4⟩ := great_fix hI
  obtain ⟨hO, hA, hN, hS, hM, hC, hOo, hIB⟩ := hI
  have hT : tot C = C 0 0 * C 0 1 := rfl
  have hml : m < 2147483648 := by obtain ⟨a1, a2, a3, -⟩ := hA; omega
  have e2 : ∀ t, mountT D (C 0 0) (C 0 1) 2 t = D 2 t := fun t => mount_n (by omega)
  have e3 : ∀ t, mountT D (C 0 0) (C 0 1) 3 t = D 3 t := fun t => mount_n (by omega)
  have e4 : ∀ t, mountT D (C 0 0) (C 0 1) 4 t = D 4 t := fun t => mount_n (by omega)
  have e5 : ∀ t, mountT D (C 0 0) (C 0 1) 5 t = D 5 t := fun t => mount_n (by omega)
  have e6 : ∀ t, mountT D (C 0 0) (C 0 1) 6 t = D 6 t := fun t => mount_n (by omega)
  have e7 : ∀ t, mountT D (C 0 0) (C 0 1) 7 t = D 7 t := fun t => mount_n (by omega)
  have e8 : ∀ t, mountT D (C 0 0) (C 0 1) 8 t = D 8 t := fun t => mount_n (by omega)
  have e1 : ∀ t, mountT D (C 0 0) (C 0 1) 1 t = D 1 t := fun t => mount_n (by omega)
  have e9 : ∀ a, a < 20 → mountT D (C 0 0) (C 0 1) 9 a = findT D (tot C) 16 a := fun a ha => mount_9 ha
  have e155 : mountT D (C 0 0) (C 0 1) 15 5 = D 15 5 := mount_n (by omega)
  have e156 : mountT D (C 0 0) (C 0 1) 15 6 = D 15 6 := mount_n (by omega)
  have e153 : mountT D (C 0 0) (C 0 1) 15 3 = D 15 3 := mount_n (by omega)
  have e154 : mountT D (C 0 0) (C 0 1) 15 4 = on (begunT D (C 0 0)) := mount_154
  have e10 : mountT D (C 0 0) (C 0 1) 14 10 = i3 m := mount_1410.trans m1
  obtain ⟨p1, p2, p3⟩ := @mount_141 D (C 0 0) (C 0 1)
  generalize mountT D (C 0 0) (C 0 1) = F at *
  have hls : lsN F = m := by unfold lsN; rw [e10, xi_i3 hml]
  have hbs : bsN F = bsN D := by unfold bsN; rw [e155]
  have hwp : wpN F = wpN D := by unfold wpN; rw [e156]
  have hsq : ∀ t, sq F t = sq D t := fun t => by unfold sq; rw [e3]
  have hpg : ∀ t, pgT F t = pgT D t := fun t => by unfold pgT; rw [e4, e5]
  have hA2 : ∀ n, eraA F (C 0 1) n = eraA D (C 0 1) n := by
    intro n
    induction n with
    | zero => rfl
    | succ n ih => show eraA F (C 0 1) n + eraN F (C 0 1) n (C 0 1) = _ + _; rw [ih]; congr 1; unfold eraN; exact cnt_congr (fun i hi => by rw [e2])
  refine ⟨hOk, ?_, fun t ht => ?_, ?_, fun a ha => ?_, ?_, ⟨Or.inr p1, ⟨0, by omega, p2⟩, fun f hf => ⟨Or.inl (p3 f hf).1, Or.inl (p3 f hf).2, fun q => by rw [(p3 f hf).2] at q; exact absurd q (by decide)⟩⟩, ?_⟩
  · obtain ⟨a1, a2, a3, a4, a5, a6, a7, a8, a9⟩ := hA
    unfold InA
    rw [hls, hbs, hwp, e10, e155, e156]
    exact ⟨rfl, by omega, a3, a4, a5, m3, a7, a8, a9⟩
  · have := hN t ht
    unfold NodeOK at this ⊢
    simp only [e2, e3, e4, e5, e6, e7, e8, hls, hsq]
    rcases this with q | q | ⟨q1, q2, q3, q4⟩
    · exact Or.inl q
    · exact Or.inr (Or.inl q)
    · refine Or.inr (Or.inr ⟨q1, q2, m4 t ht ?_, q4⟩)
      rcases q4 with r | r | r
      · exact Or.inl r.1
      · exact Or.inr (Or.inl r.1)
      · exact Or.inr (Or.inr r.1)
  · unfold InS isN at hS ⊢
    simp only [e2, e3, e4, e5, e6, e7, e8]
    exact hS
  · rw [e9 a ha, hls]
    obtain ⟨v', v1, v2, v3, -⟩ := find_is hB hI' ha
    obtain ⟨w1, w2⟩ := MapIs_is hI' m4 v3
    rw [v1, xi_i3 v2]
    refine ⟨rfl, w1, fun t ht hk he => ?_⟩
    rw [e2] at hk
    rw [e3] at he
    rw [hpg]
    refine w2 t ht hk ?_
    unfold sq
    rw [← he, xi_i3 v2]
  · unfold InC at hC ⊢
    simp only [e2, e3, e4, e5, e6, e7, e8, hbs, hwp, hsq, hpg]
    exact hC
  · obtain ⟨b1, b2⟩ := hIB
    refine ⟨by rw [hA2, e153]; exact b1, fun k hk => ?_⟩
    obtain ⟨l, l1, l2, l3, l4⟩ := b2 k hk
    refine ⟨l, l1, by rw [e1]; exact l2, fun i hi => by rw [e2]; exact l3 i hi, ?_⟩
    by_cases c1 : l = 0
    · exact Or.inr (Or.inl c1)
    by_cases c2 : l = C 0 1
    · exact Or.inr (Or.inr c2)
    left
    have h61 := hB.2.1
    have h6 := hB.1
    have hh : D 15 4 = i3 k := by
      rcases l4 with q | q | q
      · exact q
      · exact absurd q c1
      · exact absurd q c2
    have o4 := hO.2.2.2.1
    rw [e154]
    unfold begunT
    cases hl : lst (fun b => decide (0 < D 1 b) && decide (D 1 b < D 15 1)) (C 0 0) with
    | none =>
      exfalso
      have := lst_none.mp hl k hk
      have q1 : (0 : Int32) < i3 l := (i3_lt (a := 0) (by omega) (by omega)).mpr (by omega)
      have q2 : i3 l < i3 (C 0 1) := (i3_lt (by omega) (by omega)).mpr (by omega)
      rw [l2, o4, decide_eq_true q1, decide_eq_true q2] at this
      exact absurd this (by decide)
    | some k' =>
      obtain ⟨q1, q2, -⟩ := lst_some.mp hl
      simp only [Bool.and_eq_true, decide_eq_true_eq] at q2
      obtain ⟨l', r1, r2, r3, r4⟩ := b2 k' q1
      rw [r2, o4] at q2
      have g1 := (i3_lt (a := 0) (by omega) (by omega)).mp q2.1
      have g2 := (i3_lt (by omega) (by omega)).mp q2.2
      rcases r4 with q | q | q
      · rw [hh] at q
        exact congrArg i3 ((i3_eq (by omega) (by omega)).mp q).symm
      · omega
      · omega
end
