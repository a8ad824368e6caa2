/-! ===== collect, commit: cut and noted ===== -/
section
variable {M : xM} {D E X Y Z T N X' E' E0 Tc : xT} {C : xC} {R G G' : Nat → Int32} {fu b d L L' s o t k n m i j p q f l w nb nw a at' r g c e B K P Q h' : Nat} {x y z v u : Int32} {nt : Bool}
theorem pickF_y : ∀ n, n ≤ 6 → h' < 6 → (pickF E n).1 = i3 h' → (pickF E n).2 = if i3 h' = E 15 4 then 0 else dirtyT E h'
  | 0, _, hh, h => by
    have : (-1 : Int32) = i3 h' := h
    exact absurd this (neg_i3 (by omega))
  | n + 1, hn, hh, h => by
    have e0 : pickF E (n + 1) = if (pickF E n).2 < (if i3 n = E 15 4 then 0 else dirtyT E n) ∨ (¬ (pickF E n).1 < 0 ∧ (if i3 n = E 15 4 then 0 else dirtyT E n) = (pickF E n).2 ∧ E 0 n < E 0 (xi (pickF E n).1)) then (i3 n, if i3 n = E 15 4 then 0 else dirtyT E n) else pickF E n := rfl
    rw [e0] at h ⊢
    by_cases c1 : (pickF E n).2 < (if i3 n = E 15 4 then 0 else dirtyT E n) ∨ (¬ (pickF E n).1 < 0 ∧ (if i3 n = E 15 4 then 0 else dirtyT E n) = (pickF E n).2 ∧ E 0 n < E 0 (xi (pickF E n).1))
    · rw [if_pos c1] at h ⊢
      have := (i3_eq (a := n) (b := h') (by omega) (by omega)).mp h
      rw [this]
    · rw [if_neg c1] at h ⊢
      exact pickF_y n (by omega) hh h
theorem pick_live (hB : CB C) (hI : Inv C L D) (hV : InV C D) (e : pickT D (C 0 0) (C 0 1) = (some k, E)) : liN D (C 0 1) k ≤ 5 := by
  have h6 := hB.1
  have h61 := hB.2.1
  unfold pickT at e
  by_cases c1 : D 14 1 = 0
  · rw [if_pos c1] at e; injection e with e1 _; cases e1
  rw [if_neg c1] at e
  injection e with e1 _
  have hk := pickB_lt h6 e1
  unfold pickB at e1
  rcases pickF_pos (E := surveyT D (C 0 0) (C 0 1)) (C 0 0) h6 with ⟨q, -⟩ | ⟨h, hh, q, hpos⟩
  · rw [q] at e1
    simp only [n1_lt, if_true] at e1
    cases e1
  · have hy := pickF_y (C 0 0) h6 (show h < 6 by omega) q
    rw [q] at e1
    have ek : h < 2147483648 := by omega
    simp only [i3_nl ek, if_false, xi_i3 ek] at e1
    have ehk : h = k := by
      split at e1
      · injection e1
      · cases e1
    subst ehk
    rw [pick_y hB hI.1 hV hI.2.2.2.2.2.2.2 hk] at hy
    rw [hy] at hpos
    by_cases c2 : i3 h = D 15 4
    · rw [if_pos c2] at hpos; exact absurd hpos (by decide)
    · rw [if_neg c2] at hpos
      obtain ⟨l, l1, l2, l3, l4⟩ := hI.2.2.2.2.2.2.2.2 h hk
      have hd := di_sum (era_l l1 l3)
      have := (i3_lt (a := 0) (b := diN D (C 0 1) h) (by omega) (by omega)).mp hpos
      omega
theorem Om_collect (hB : CB C) (hI : Inv C L D) (hV : InV C D) (h2 : D 14 2 = 0) (hE : InE D P K) (hP : P + 5 ≤ 288) (hc : 1 ≤ c) (hc2 : c ≤ 1000) :
    Om (-2) C c 5 P D N (collectT true D (C 0 0) (C 0 1)) (collectT false (cutAs c D N) (C 0 0) (C 0 1)) := by
  have hp := fun k E (e : pickT D (C 0 0) (C 0 1) = (some k, E)) => CI_begin hB hI hV e
  have hl := fun k E (e : pickT D (C 0 0) (C 0 1) = (some k, E)) => pick_live hB hI hV e
  have hlo : ∀ j k', (j ≠ 10 ∧ j ≠ 13 ∧ (j ≠ 14 ∨ k' ≠ 11 ∧ k' ≠ 14 ∧ k' ≠ 15)) → (pickT D (C 0 0) (C 0 1)).2 j k' = D j k' := by
    intro j k' hj
    unfold pickT
    split
    · rfl
    · exact surveyT_lo hj
  unfold collectT
  rw [pick_cb]
  generalize pickT D (C 0 0) (C 0 1) = W at hp hl hlo ⊢
  obtain ⟨o', E⟩ := W
  simp only at hlo ⊢
  obtain ⟨hE2, hS2⟩ := InE_cg (E := E) (fun j k q1 q2 => hlo j k (by omega)) hE
  have h22 : E 14 2 = 0 := (hlo 14 2 (by omega)).trans h2
  cases o' with
  | none => exact Om_le (Om_0 hE2 (fun p hp a ha => hS2 p a) h22 hc) (Nat.zero_le _)
  | some k =>
    obtain ⟨eS, hk, hsv, hci⟩ := hp k E rfl
    have hl5 := hl k E rfl
    have hlv : cnt (fun j => liveB E (k * C 0 1 + j)) (C 0 1) ≤ 5 := by
      have : liveB E = liveB D := by rw [eS]; exact live_surv
      rw [this]; exact hl5
    have := Om_colR (N := N) hB hk hsv.2.2.1 (C 0 1) 0 c P K E (by omega) hci h22 hE2 (by omega) hc hc2
    obtain ⟨q, K', w1, w2, w3, w4⟩ := this
    refine ⟨q, K', by omega, w2, fun p hp a ha => (w3 p hp a ha).trans (hS2 p a), w4⟩
theorem Om_comR (hB : CB C) (hn : n ≤ 6) (hL : L + n < 1000000) : ∀ m i at' c P K E, i + m = n → at' ≤ 20 → CMI C L D E n i → E 14 2 = 0 → InE E P K → P + m ≤ 288 → 1 ≤ c → c ≤ 1000 →
    Om (-2) C c m P E N (comR true (C 0 0) (C 0 1) n m i at' E) (comR false (C 0 0) (C 0 1) n m i at' (cutAs c E N)) := by
  intro m
  induction m with
  | zero =>
    intro i at' c P K E hi hat h h2 hE hP hc hc2
    have eu : up (up (up (cutAs c E N) 15 5 (cutAs c E N 14 10)) 15 6 (i3 n)) 14 11 0 = cutAs c (up (up (up E 15 5 (E 14 10)) 15 6 (i3 n)) 14 11 0) N := by
      rw [show cutAs c E N 14 10 = E 14 10 from rfl, cuA_up (by omega) (by omega), cuA_up (by omega) (by omega), cuA_up (by omega) (by omega)]
    unfold comR
    rw [eu]
    obtain ⟨hE2, hS2⟩ := InE_cg (E := up (up (up E 15 5 (E 14 10)) 15 6 (i3 n)) 14 11 0) (fun j n q1 q2 => by rw [up_ne (by omega), up_ne (by omega), up_ne (by omega)]) hE
    exact Om_0 hE2 (fun p hp a ha => hS2 p a) (by rw [up_ne (by omega), up_ne (by omega), up_ne (by omega)]; exact h2) hc
  | succ m ih =>
    intro i at' c P K E hi hat h h2 hE hP hc hc2
    obtain ⟨h0, he0, hst⟩ := CMI_step hB h (show i < n by omega) hn hL hat true
    have h21 : up E 14 10 (E 14 10 + 1) 14 2 = 0 := by rw [up_ne (by omega)]; exact h2
    obtain ⟨hE1, hS1⟩ := InE_cg (E := up E 14 10 (E 14 10 + 1)) (fun j k q1 q2 => up_ne (by omega)) hE
    obtain ⟨s, T, K', p1, p2, p3, p4, p5⟩ := put_step (N := N) hB h0 he0 h21 hE1 (by omega) hc hc2
    have eu : up (cutAs c E N) 14 10 (cutAs c E N 14 10 + 1) = cutAs c (up E 14 10 (E 14 10 + 1)) N := cuA_up (by omega) (by omega)
    unfold comR
    rw [eu, p1]
    simp only
    rcases hst with ⟨q, -⟩ | ⟨-, s', T', q1, q2, q3, q4⟩
    · rw [h21] at q; exact absurd q (by decide)
    · rw [p1] at q1
      injection q1 with a1 a2
      injection a1 with a1
      subst a1; subst a2
      have flo : ∀ j k, (j < 2 ∨ 8 < j) → (fillPartT T s i n at').2 j k = T j k := by
        intro j k hj
        have sp := filR_spec s (20 - at') 0 at' T (by omega) (by omega)
        show fillT (filR s (20 - at') 0 at' T).2.2 s 3 ((filR s (20 - at') 0 at' T).2.2 14 10) (i3 i) (i3 n) (i3 (filR s (20 - at') 0 at' T).1) j k = T j k
        rw [fillT_lo (by omega), sp.2.2.2.1 j k (by omega)]
      obtain ⟨hE2, hS2⟩ := InE_cg (E := (fillPartT T s i n at').2) (fun j n w1 w2 => flo j n (by omega)) p2
      have h22 : (fillPartT T s i n at').2 14 2 = 0 := by rw [flo _ _ (by omega)]; exact p4
      have hS3 : ∀ p, p < P → ∀ a, a < 20 → NS (fillPartT T s i n at').2 p a = NS E p a := fun p hp a ha => ((hS2 p a).trans (p3 p hp a ha)).trans (hS1 p a)
      rcases p5 with ⟨c1, w1⟩ | ⟨c1, Tc, w1, w2⟩
      · rw [w1]
        simp only
        rw [fillPart_cb]
        exact Om_s hS3 c1 (ih (i + 1) _ (c - 1) (P + 1) K' _ (by omega) q4 q3 h22 hE2 (by omega) (by omega) (by omega))
      · subst c1
        rw [w1]
        simp only
        obtain ⟨d1, d2, d3⟩ := w2
        exact Om_d hS3 (L := L + i + 1) ⟨d1, d2, fun a ha => by rw [hS2]; exact d3 a ha⟩ (ih (i + 1) _ 1000 (P + 1) K' _ (by omega) q4 q3 h22 hE2 (by omega) (by omega) (by omega))
theorem Om_commit (hB : CB C) (hI : Inv C L D) (hL : L + 6 < 1000000) (h2 : D 14 2 = 0) (hE : InE D P K) (hP : P + 6 ≤ 288) (hc : 1 ≤ c) (hc2 : c ≤ 1000) :
    Om (-2) C c 6 P D N (commitT true D (C 0 0) (C 0 1)) (commitT false (cutAs c D N) (C 0 0) (C 0 1)) := by
  have hp := partsN_le D
  unfold commitT
  rw [show cutAs c D N 14 1 = D 14 1 from rfl, show cutAs c D N 15 3 = D 15 3 from rfl, show partsN (cutAs c D N) = partsN D from rfl]
  by_cases c1 : D 14 1 = 0
  · rw [if_pos c1, if_pos c1]; exact Om_le (Om_0 hE (fun p hp a ha => rfl) h2 hc) (Nat.zero_le _)
  rw [if_neg c1, if_neg c1]
  by_cases c3 : i3 (partsN D) ≤ D 15 3
  · rw [if_pos c3, if_pos c3]
    exact Om_le (Om_comR (N := N) hB hp (by omega) (partsN D) 0 0 c P K D (by omega) (by omega) (CMI_begin hB hI hp c3) h2 hE (by omega) hc hc2) hp
  · rw [if_neg c3, if_neg c3]; exact Om_le (Om_0 hE (fun p hp a ha => rfl) h2 hc) (Nat.zero_le _)
end
