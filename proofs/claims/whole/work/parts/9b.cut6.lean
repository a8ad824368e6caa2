/-! ===== the lines of a work: cut and noted ===== -/
section
variable {M : xM} {D E X Y Z T N X' E' E0 Tc : xT} {C : xC} {R G G' : Nat → Int32} {fu b d L L' s o t k n m i j p q f l w nb nw a at' r g c e B K P Q : Nat} {x y z v u : Int32} {nt : Bool}
/-- one deed, then another -/
theorem Om_then {α β : Type} {d1 : α} {d0 : β} {r1 rc1 : α × xT} {r0 rf : β × xT} {rc' : Nat → β × xT} {B1 B2 : Nat} (h : Om d1 C c B1 P D N r1 rc1)
    (hg : ∀ q K, q ≤ B1 → InE r1.2 (P + q) K → r1.2 14 2 = 0 → ∀ c', 1 ≤ c' → c' ≤ 1000 → Om d0 C c' B2 (P + q) r1.2 N r0 (rc' c'))
    (h1 : ∀ q, q < c → rc1 = (r1.1, cutAs (c - q) r1.2 N) → rf = rc' (c - q)) (h2 : rc1.1 = d1 → rc1.2 14 1 = 0 → rf = (d0, rc1.2)) (hc0 : 1 ≤ c) (hc : c ≤ 1000) : Om d0 C c (B1 + B2) P D N r0 rf := by
  obtain ⟨q, K, w1, w2, w3, w4, w5⟩ := h
  rcases w5 with ⟨q1, q2⟩ | ⟨q1, q2, L, q3⟩
  · obtain ⟨q', K', v1, v2, v3, v4, v5⟩ := hg q K w1 w2 w4 (c - q) (by omega) (by omega)
    refine ⟨q + q', K', by omega, by rw [← Nat.add_assoc]; exact v2, fun p hp a ha => (v3 p (by omega) a ha).trans (w3 p hp a ha), v4, ?_⟩
    rw [h1 q q1 q2]
    rcases v5 with ⟨u1, u2⟩ | ⟨u1, u2, L, u3⟩
    · left
      rw [show c - (q + q') = c - q - q' by omega]
      exact ⟨by omega, u2⟩
    · right
      rw [show P + q + (c - q) - 1 = P + c - 1 by omega] at u3
      exact ⟨by omega, u2, L, u3⟩
  · obtain ⟨q', K', v1, v2, v3, v4, v5⟩ := hg q K w1 w2 w4 1000 (by omega) (by omega)
    refine ⟨q + q', K', by omega, by rw [← Nat.add_assoc]; exact v2, fun p hp a ha => (v3 p (by omega) a ha).trans (w3 p hp a ha), v4, Or.inr ⟨by omega, ?_⟩⟩
    obtain ⟨d1', d2, d3⟩ := q3
    rw [h2 q2 d1']
    refine ⟨rfl, L, d1', d2, fun a ha => ?_⟩
    rw [v3 _ (by omega) a ha]; exact d3 a ha
theorem map_cb : mapT (cutAs c E N) a = cutAs c (mapT E a) N := by
  unfold mapT
  rw [show cutAs c E N 14 10 = E 14 10 from rfl, cuA_up (by omega) (by omega), cuA_up (by omega) (by omega)]
theorem Om_wriE (hB : CB C) (hw : WI C L E0 E f p r i) (hi : 0 < i) (hi2 : i ≤ 2) (hL : L + 8 < 1000000) (hf : f < C 0 3) (hp : p < C 2 f) (h2 : E 14 2 = 0) (hE : InE E P K) (hP : P + (if C 1 f = 3 then 6 else 0) ≤ 288) (hc : 1 ≤ c) (hc2 : c ≤ 1000) :
    Om (-2) C c (if C 1 f = 3 then 6 else 0) P E N (wriE C true f p E) (wriE C false f p (cutAs c E N)) := by
  have hm := WI_map hB hw hi hf hp
  have e1 : up (up E 9 (f * 4 + p) (E 14 10)) 14 11 0 = mapT E (f * 4 + p) := rfl
  have e2 : up (up (cutAs c E N) 9 (f * 4 + p) (E 14 10)) 14 11 0 = cutAs c (mapT E (f * 4 + p)) N := map_cb
  have e10 : cutAs c E N 14 10 = E 14 10 := rfl
  obtain ⟨hE2, hS2⟩ := InE_cg (E := mapT E (f * 4 + p)) (fun j n q1 q2 => mapT_lo (by omega)) hE
  have h22 : mapT E (f * 4 + p) 14 2 = 0 := by rw [mapT_lo (by omega)]; exact h2
  unfold wriE
  simp only [e10, e1, e2]
  by_cases c3 : C 1 f = 3
  · rw [if_pos c3] at hP
    rw [if_pos c3, if_pos c3, if_pos c3]
    obtain ⟨q, K', w1, w2, w3, w4, w5⟩ := Om_commit (N := N) hB hm (by omega) h22 hE2 (by omega) hc hc2
    generalize commitT true (mapT E (f * 4 + p)) (C 0 0) (C 0 1) = r0 at *
    generalize commitT false (cutAs c (mapT E (f * 4 + p)) N) (C 0 0) (C 0 1) = rc0 at *
    have er : (if 0 ≤ r0.1 then (E 14 10, r0.2) else (-2, r0.2)).2 = r0.2 := by split <;> rfl
    refine ⟨q, K', w1, by rw [er]; exact w2, fun p hp a ha => by rw [er]; exact (w3 p hp a ha).trans (hS2 p a), by rw [er]; exact w4, ?_⟩
    rcases w5 with ⟨q1, q2⟩ | ⟨q1, q2, L', q3⟩
    · left
      refine ⟨q1, ?_⟩
      rw [q2]
      by_cases cz : 0 ≤ r0.1
      · rw [if_pos cz, if_pos cz]
      · rw [if_neg cz, if_neg cz]
    · right
      rw [er, if_neg (show ¬ 0 ≤ rc0.1 by rw [q2]; decide)]
      exact ⟨q1, rfl, L', q3⟩
  · rw [if_neg c3, if_neg c3, if_neg c3]
    exact Om_0 hE2 (fun p hp a ha => hS2 p a) h22 hc
theorem Om_wriR (hB : CB C) (hL : L + 8 < 1000000) (hr2 : r ≤ 36) (hf : f < C 0 3) (hp : p < C 2 f) (hv : u = i3 g) (hg : g ≤ 255) :
    ∀ m i c P K E, i + m ≤ 2 → 1 ≤ i + m → i + m ≤ r → WI C L E0 E f p r i → E 14 2 = 0 → InE E P K → P + (m + (if C 1 f = 3 then 6 else 0)) ≤ 288 → 1 ≤ c → c ≤ 1000 →
    Om (-2) C c (m + (if C 1 f = 3 then 6 else 0)) P E N (wriR C true f p u m E) (wriR C false f p u m (cutAs c E N)) := by
  intro m
  induction m with
  | zero =>
    intro i c P K E hi hi1 hir hw h2 hE hP hc hc2
    rw [Nat.zero_add] at hP ⊢
    exact Om_wriE hB hw (by omega) (by omega) hL hf hp h2 hE hP hc hc2
  | succ m ih =>
    intro i c P K E hi hi1 hir hw h2 hE hP hc hc2
    have he : ¬ E 15 3 = 0 := by rw [hw.2.1]; exact fun q => by have := (i3_eq (a := r - i) (b := 0) (by omega) (by omega)).mp q; omega
    obtain ⟨T, K', p1, p2, p3, p4, p5⟩ := new_step (N := N) (x := 1) (y := i3 f) (z := i3 p) (v := u) hB hw.1 (by omega) he h2 hE (by omega) hc hc2
    unfold wriR
    rcases WI_step hB hw hL (by omega) (by omega) hr2 hf hp hv hg true with ⟨e1, -⟩ | ⟨-, e2⟩
    · rw [p1] at e1; cases e1
    · rw [p1] at e2
      simp only [p1, if_true]
      rcases p5 with ⟨c1, w1⟩ | ⟨c1, Tc, L', w1, w2⟩
      · simp only [w1, if_true]
        exact Om_le (Om_s p3 c1 (ih (i + 1) (c - 1) (P + 1) K' T (by omega) (by omega) (by omega) e2 p4 p2 (by omega) (by omega) (by omega))) (by omega)
      · subst c1
        simp only [w1, Bool.false_eq_true, if_false]
        exact Om_le (Om_d p3 w2 (ih (i + 1) 1000 (P + 1) K' T (by omega) (by omega) (by omega) e2 p4 p2 (by omega) (by omega) (by omega))) (by omega)
theorem Om_first (hB : CB C) (hI : Inv C L D) (hV : InV C D) (h2 : D 14 2 = 0) (hE : InE D P K) (hP : P + 5 ≤ 288) (hc : 1 ≤ c) (hc2 : c ≤ 1000) :
    Om true C c 5 P D N (firstT2 C R a true D) (firstT2 C R a false (cutAs c D N)) := by
  obtain ⟨hE2, hS2⟩ := InE_cg (E := (wantsT C R a D).2) (fun j n q1 q2 => wantsT_lo (by omega)) hE
  have h22 : (wantsT C R a D).2 14 2 = 0 := (wantsT_lo (by omega)).trans h2
  unfold firstT2
  rw [wants_cb]
  by_cases cw : (wantsT C R a D).1 = true
  · rw [if_pos cw, if_pos cw]
    obtain ⟨q, K', w1, w2, w3, w4, w5⟩ := Om_collect (N := N) hB (Inv_wants (R := R) (a := a) hI) (InV_wants hB hV) h22 hE2 (by omega) hc hc2
    refine ⟨q, K', w1, w2, fun p hp a ha => (w3 p hp a ha).trans (hS2 p a), w4, ?_⟩
    rcases w5 with ⟨q1, q2⟩ | ⟨q1, q2, L', q3⟩
    · left
      refine ⟨q1, ?_⟩
      simp only
      rw [q2]
    · right
      exact ⟨q1, decide_eq_true q2, L', q3⟩
  · rw [if_neg cw, if_neg cw]
    exact Om_le (Om_0 hE2 (fun p hp a ha => hS2 p a) h22 hc) (Nat.zero_le _)
end
