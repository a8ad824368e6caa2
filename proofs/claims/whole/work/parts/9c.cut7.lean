/-! ===== a line of a work, cut and noted ===== -/
section
variable {M : xM} {D E X Y Z T N X' E' E0 Tc : xT} {C : xC} {R G G' : Nat → Int32} {fu b d L L' s o t k n m i j p q f l w nb nw a r g c e B K P Q : Nat} {x y z v u : Int32} {nt : Bool}
theorem Om_map {α β : Type} {d0 : α} {r0 rc0 : α × xT} (φ : α → β) (h : Om d0 C c B P D N r0 rc0) : Om (φ d0) C c B P D N (φ r0.1, r0.2) (φ rc0.1, rc0.2) := by
  obtain ⟨q, K, h1, h2, h3, h4, h5⟩ := h
  refine ⟨q, K, h1, h2, h3, h4, ?_⟩
  rcases h5 with ⟨q1, q2⟩ | ⟨q1, q2, L, q3⟩
  · left
    refine ⟨q1, ?_⟩
    rw [q2]
  · right
    exact ⟨q1, by rw [q2], L, q3⟩
theorem Om_write (hB : CB C) (hI : Inv C L D) (hV : InV C D) (hL : L + 8 < 1000000) (h2 : D 14 2 = 0) (hE : InE D P K) (hP : P + 12 ≤ 288) (hc : 1 ≤ c) (hc2 : c ≤ 1000) :
    Om (-2) C c 12 P D N (writeT C R a true D x y v) (writeT C R a false (cutAs c D N) x y v) := by
  have hF := Inv_first (R := R) (a := a) hB hI hV true
  unfold writeT
  rw [show mayB C (cutAs c D N) x y = mayB C D x y from rfl]
  by_cases hcnd : (mayB C D x y && (! decide (v < 0) && decide (v ≤ 255))) = true
  · rw [if_pos hcnd, if_pos hcnd]
    simp only [Bool.and_eq_true, Bool.not_eq_true', decide_eq_false_iff_not, decide_eq_true_eq] at hcnd
    obtain ⟨hm, hv0, hv1⟩ := hcnd
    obtain ⟨f, p, hf, hp, rfl, rfl, h1, h12⟩ := mayB_is hB hm
    obtain ⟨g, hg, rfl⟩ := i3_of (Int32.not_lt.mp hv0)
    have hg2 := (i3_le (b := 255) hg (by omega)).mp hv1
    have c5 := hB.2.2.2.1
    have c4 := (hB.2.2.2.2.2 f hf).2.2
    have hp1 := fun q => firstT2_141 (R := R) (a := a) (nt := true) (Okd3 hI) q
    have hOm := Om_first (R := R) (a := a) (N := N) hB hI hV h2 hE (by omega) hc hc2
    rw [xi_i3 (by omega), xi_i3 (by omega)]
    generalize firstT2 C R a true D = F at *
    generalize firstT2 C R a false (cutAs c D N) = Fc at *
    refine Om_then (B1 := 5) (B2 := 7) (rc' := fun c' => if F.1 then (-2, cutAs c' F.2 N) else wriB C false f p (i3 g) (cutAs c' F.2 N)) hOm (fun q K' hq hE' h2' c' hc' hc2' => ?_) (fun q q1 q2 => ?_) (fun q1 q2 => by rw [q1, if_pos rfl]) hc hc2
    · cases ef : F.1 with
      | true =>
        rw [if_pos rfl]
        simp only [ef, if_true]
        exact Om_le (Om_0 hE' (fun p hp a ha => rfl) h2' hc') (Nat.zero_le _)
      | false =>
        rw [if_neg (by decide)]
        simp only [ef, Bool.false_eq_true, if_false]
        unfold wriB
        rw [show roomB C (cutAs c' F.2 N) f p = roomB C F.2 f p from rfl]
        cases hr : roomB C F.2 f p with
        | false =>
          rw [if_neg (by decide), if_neg (by decide)]
          exact Om_le (Om_0 hE' (fun p hp a ha => rfl) h2' hc') (Nat.zero_le _)
        | true =>
          rw [if_pos rfl, if_pos rfl]
          obtain ⟨r1, r2⟩ := room_is hB hF.1 hr
          have hw := WI_begin (f := f) (p := p) hB hF.1 (by rw [hp1 ef]; exact h1)
          have hn : (if C 1 f = 2 then 2 else 1) ≤ eraA F.2 (C 0 1) (C 0 0) := by
            refine Nat.le_trans ?_ r2
            unfold roomN
            split
            · omega
            · split <;> omega
          have hb7 : (if C 1 f = 2 then 2 else 1) + (if C 1 f = 3 then 6 else 0) ≤ 7 := by
            by_cases k2 : C 1 f = 2
            · rw [if_pos k2, if_neg (by omega)]; omega
            · rw [if_neg k2]; split <;> omega
          exact Om_le (Om_wriR (N := N) hB hL r1 hf hp rfl hg2 (if C 1 f = 2 then 2 else 1) 0 c' (P + q) K' F.2 (by split <;> omega) (by split <;> omega) (by rw [Nat.zero_add]; exact hn) hw h2' hE' (by omega) hc' hc2') hb7
    · rw [q2]
  · rw [if_neg hcnd, if_neg hcnd]
    exact Om_le (Om_0 hE (fun p hp a ha => rfl) h2 hc) (Nat.zero_le _)
theorem Om_remB (hB : CB C) (hI : Inv C L D) (hL : L + 8 < 1000000) (h2 : D 14 2 = 0) (hE : InE D P K) (hP : P + 1 ≤ 288) (hc : 1 ≤ c) (hc2 : c ≤ 1000) :
    Om (-2) C c 1 P D N (remB C true f D) (remB C false f (cutAs c D N)) := by
  unfold remB
  rw [show keptN (cutAs c D N) = keptN D from rfl, show mapN (cutAs c D N) f = mapN D f from rfl, show cutAs c D N 15 3 = D 15 3 from rfl]
  by_cases hcn : i3 (1 + ((keptN D - mapN D f) / 4 + 1) + C 0 2) ≤ D 15 3
  · rw [if_pos hcn, if_pos hcn]
    have he := remB_he hB hI hcn
    obtain ⟨T, K', p1, p2, p3, p4, p5⟩ := new_step (N := N) (x := 2) (y := i3 f) (z := -1) (v := -1) hB hI (by omega) he h2 hE (by omega) hc hc2
    simp only [p1, if_true]
    obtain ⟨hE1, hS1⟩ := InE_cg (E := unmapT T f) (fun j n q1 q2 => unmapT_lo (by omega)) p2
    obtain ⟨hE2, hS2⟩ := InE_cg (E := up T 12 f 1) (fun j n q1 q2 => up_ne (by omega)) p2
    have hk : ∀ c', 1 ≤ c' → Om (-2) C c' 0 (P + 1) T N (if T 11 f = 0 then (unmapT T f 14 10, unmapT T f) else (T 14 10, up T 12 f 1)) (if T 11 f = 0 then (unmapT T f 14 10, cutAs c' (unmapT T f) N) else (T 14 10, cutAs c' (up T 12 f 1) N)) := by
      intro c' hc'
      by_cases c0 : T 11 f = 0
      · rw [if_pos c0, if_pos c0]
        exact Om_0 hE1 (fun p hp a ha => hS1 p a) (by rw [unmapT_lo (by omega)]; exact p4) hc'
      · rw [if_neg c0, if_neg c0]
        exact Om_0 hE2 (fun p hp a ha => hS2 p a) (by rw [up_ne (by omega)]; exact p4) hc'
    rcases p5 with ⟨c1, w1⟩ | ⟨c1, Tc, L', w1, w2⟩
    · simp only [w1, if_true]
      rw [show cutAs (c - 1) T N 11 f = T 11 f from rfl, unmap_cb, show cutAs (c - 1) (unmapT T f) N 14 10 = unmapT T f 14 10 from rfl, show cutAs (c - 1) T N 14 10 = T 14 10 from rfl, cuA_up (by omega) (by omega)]
      exact Om_s p3 c1 (hk (c - 1) (by omega))
    · subst c1
      simp only [w1, Bool.false_eq_true, if_false]
      exact Om_d p3 w2 (hk 1000 (by omega))
  · rw [if_neg hcn, if_neg hcn]
    exact Om_le (Om_0 hE (fun p hp a ha => rfl) h2 hc) (Nat.zero_le _)
theorem Om_remove (hB : CB C) (hI : Inv C L D) (hV : InV C D) (hL : L + 8 < 1000000) (h2 : D 14 2 = 0) (hE : InE D P K) (hP : P + 12 ≤ 288) (hc : 1 ≤ c) (hc2 : c ≤ 1000) :
    Om (-2) C c 12 P D N (removeT C R a true D x) (removeT C R a false (cutAs c D N) x) := by
  have hF := Inv_first (R := R) (a := a) hB hI hV true
  unfold removeT
  rw [show cutAs c D N 14 1 = D 14 1 from rfl, show cutAs c D N 12 (xi x) = D 12 (xi x) from rfl, show bitsN (cutAs c D N) (xi x) = bitsN D (xi x) from rfl]
  by_cases hcnd : (! decide (D 14 1 = 0) && (isFileB C x && (decide (D 12 (xi x) = 0) && ! decide (bitsN D (xi x) = 0)))) = true
  · rw [if_pos hcnd, if_pos hcnd]
    have hOm := Om_first (R := R) (a := a) (N := N) hB hI hV h2 hE (by omega) hc hc2
    generalize firstT2 C R a true D = F at *
    generalize firstT2 C R a false (cutAs c D N) = Fc at *
    refine Om_then (B1 := 5) (B2 := 7) (rc' := fun c' => if F.1 then (-2, cutAs c' F.2 N) else remB C false (xi x) (cutAs c' F.2 N)) hOm (fun q K' hq hE' h2' c' hc' hc2' => ?_) (fun q q1 q2 => ?_) (fun q1 q2 => by rw [q1, if_pos rfl]) hc hc2
    · cases ef : F.1 with
      | true =>
        rw [if_pos rfl]
        simp only [ef, if_true]
        exact Om_le (Om_0 hE' (fun p hp a ha => rfl) h2' hc') (Nat.zero_le _)
      | false =>
        rw [if_neg (by decide)]
        simp only [ef, Bool.false_eq_true, if_false]
        exact Om_le (Om_remB (N := N) hB hF.1 hL h2' hE' (by omega) hc' hc2') (by omega)
    · rw [q2]
  · rw [if_neg hcnd, if_neg hcnd]
    exact Om_le (Om_0 hE (fun p hp a ha => rfl) h2 hc) (Nat.zero_le _)
theorem open_cb : openT C (cutAs c D N) x = ((openT C D x).1, cutAs c (openT C D x).2 N) := by
  unfold openT
  rw [show cutAs c D N 14 1 = D 14 1 from rfl, show cutAs c D N 11 (xi x) = D 11 (xi x) from rfl, cuA_up (by omega) (by omega)]
  split <;> rfl
theorem close_cb : closeT C (cutAs c D N) x = ((closeT C D x).1, cutAs c (closeT C D x).2 N) := by
  unfold closeT
  rw [show cutAs c D N 14 1 = D 14 1 from rfl, show cutAs c D N 11 (xi x) = D 11 (xi x) from rfl, show cutAs c D N 12 (xi x) = D 12 (xi x) from rfl, cuA_up (by omega) (by omega), cuA_up (by omega) (by omega), unmap_cb]
  split
  · simp only
    by_cases c0 : D 12 (xi x) = 0
    · rw [if_pos c0, if_pos c0]
    · rw [if_neg c0, if_neg c0]
  · rfl
theorem close_142 : (closeT C D x).2 14 2 = D 14 2 := by
  unfold closeT
  split
  · simp only
    split
    · exact up_ne (by omega)
    · rw [unmapT_lo (by omega), up_ne (by omega), up_ne (by omega)]
  · rfl
theorem Om_did (hB : CB C) (hI : Inv C L D) (hV : InV C D) (hL : L + 8 < 1000000) (h2 : D 14 2 = 0) (hE : InE D P K) (hP : P + 12 ≤ 288) (hc : 1 ≤ c) (hc2 : c ≤ 1000) :
    ∃ d0, Om d0 C c 12 P D N (didT C R a true D k x y v) (didT C R a false (cutAs c D N) k x y v) := by
  unfold didT
  by_cases k0 : k = 0
  · rw [if_pos k0, if_pos k0]
    exact ⟨_, Om_map (fun w => ! decide (w = -1)) (Om_write (R := R) (a := a) (x := x) (y := y) (v := v) (N := N) hB hI hV hL h2 hE hP hc hc2)⟩
  rw [if_neg k0, if_neg k0]
  by_cases k1 : k = 1
  · rw [if_pos k1, if_pos k1]
    exact ⟨_, Om_map (fun w => ! decide (w = -1)) (Om_remove (R := R) (a := a) (x := x) (N := N) hB hI hV hL h2 hE hP hc hc2)⟩
  rw [if_neg k1, if_neg k1]
  by_cases k2 : k = 2
  · rw [if_pos k2, if_pos k2, open_cb]
    obtain ⟨hE1, hS1⟩ := InE_cg (E := (openT C D x).2) (fun j n q1 q2 => open_lo (by omega)) hE
    exact ⟨true, Om_le (Om_0 hE1 (fun p hp a ha => hS1 p a) ((open_lo (by omega)).trans h2) hc) (Nat.zero_le _)⟩
  rw [if_neg k2, if_neg k2]
  by_cases k3 : k = 3
  · rw [if_pos k3, if_pos k3, close_cb]
    obtain ⟨hE1, hS1⟩ := InE_cg (E := (closeT C D x).2) (fun j n q1 q2 => close_lo (by omega) (by omega) (by omega) (by omega)) hE
    exact ⟨true, Om_le (Om_0 hE1 (fun p hp a ha => hS1 p a) (close_142.trans h2) hc) (Nat.zero_le _)⟩
  rw [if_neg k3, if_neg k3]
  by_cases k4 : k = 4
  · rw [if_pos k4, if_pos k4]
    exact ⟨_, Om_map (fun w => ! decide (w = -1)) (Om_le (Om_commit (N := N) hB hI (by omega) h2 hE (by omega) hc hc2) (by omega))⟩
  · rw [if_neg k4, if_neg k4]
    exact ⟨_, Om_map (fun w => ! decide (w = -1)) (Om_le (Om_collect (N := N) hB hI hV h2 hE (by omega) hc hc2) (by omega))⟩
end
