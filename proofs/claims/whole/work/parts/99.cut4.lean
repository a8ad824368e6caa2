/-! ===== deeds, cut and noted ===== -/
/-- the noted run r from D with P notes, and the run to be cut at put c from here: in step still, or cut, and the mount finds what the note tells -/
def Om {α : Type} (d0 : α) (C : xC) (c B P : Nat) (D N : xT) (r rc : α × xT) : Prop :=
  ∃ q K, q ≤ B ∧ InE r.2 (P + q) K ∧ (∀ p, p < P → ∀ a, a < 20 → NS r.2 p a = NS D p a) ∧ r.2 14 2 = 0 ∧
    ((q < c ∧ rc = (r.1, cutAs (c - q) r.2 N)) ∨ (c ≤ q ∧ rc.1 = d0 ∧ ∃ L, Dead C L r.2 rc.2 (P + c - 1)))
section
variable {M : xM} {D E X Y Z T N X' E' E0 Tc : xT} {C : xC} {R G G' : Nat → Int32} {fu b d L L' s o t k n m i j p q f l w nb nw a at' r g c e B K P Q : Nat} {x y z v u : Int32} {nt : Bool}
theorem Om_le {α : Type} {d0 : α} {r0 rc0 : α × xT} (h : Om d0 C c B P D N r0 rc0) (hB : B ≤ Q) : Om d0 C c Q P D N r0 rc0 := by
  obtain ⟨q, K, h1, h2⟩ := h
  exact ⟨q, K, by omega, h2⟩
/-- nothing put -/
theorem Om_0 {α : Type} {d0 x0 : α} (hE : InE E P K) (hS : ∀ p, p < P → ∀ a, a < 20 → NS E p a = NS D p a) (h2 : E 14 2 = 0) (hc : 1 ≤ c) : Om d0 C c 0 P D N (x0, E) (x0, cutAs c E N) :=
  ⟨0, K, Nat.le_refl _, hE, hS, h2, Or.inl ⟨hc, rfl⟩⟩
/-- a put ahead of the rest -/
theorem Om_s {α : Type} {d0 : α} {r0 rc0 : α × xT} (hS : ∀ p, p < P → ∀ a, a < 20 → NS T p a = NS D p a) (hc : 2 ≤ c) (h : Om d0 C (c - 1) B (P + 1) T N r0 rc0) : Om d0 C c (B + 1) P D N r0 rc0 := by
  obtain ⟨q, K, h1, h2, h3, h4, h5⟩ := h
  refine ⟨q + 1, K, by omega, by rw [show P + (q + 1) = P + 1 + q by omega]; exact h2, fun p hp a ha => (h3 p (by omega) a ha).trans (hS p hp a ha), h4, ?_⟩
  rcases h5 with ⟨q1, q2⟩ | ⟨q1, q2, L, q3⟩
  · left
    rw [show c - (q + 1) = c - 1 - q by omega]
    exact ⟨by omega, q2⟩
  · right
    rw [show P + 1 + (c - 1) - 1 = P + c - 1 by omega] at q3
    exact ⟨by omega, q2, L, q3⟩
theorem Om_d {α : Type} {d0 : α} {r0 rc0 : α × xT} (hS : ∀ p, p < P → ∀ a, a < 20 → NS T p a = NS D p a) (hd : Dead C L T Tc P) (h : Om d0 C 1000 B (P + 1) T N r0 rc0) : Om d0 C 1 (B + 1) P D N r0 (d0, Tc) := by
  obtain ⟨q, K, h1, h2, h3, h4, h5⟩ := h
  refine ⟨q + 1, K, by omega, by rw [show P + (q + 1) = P + 1 + q by omega]; exact h2, fun p hp a ha => (h3 p (by omega) a ha).trans (hS p hp a ha), h4, Or.inr ⟨by omega, rfl, L, ?_⟩⟩
  obtain ⟨d1, d2, d3⟩ := hd
  exact ⟨d1, d2, fun a ha => by rw [show P + 1 - 1 = P by omega, h3 P (by omega) a ha]; exact d3 a ha⟩
theorem new_step (hB : CB C) (hI : Inv C L D) (hL : L + 1 < 1000000) (he : ¬ D 15 3 = 0) (h2 : D 14 2 = 0) (hE : InE D P K) (hP : P < 288) (hc : 1 ≤ c) (hc2 : c ≤ 1000) :
    ∃ T K', putNewT true D (C 0 0) (C 0 1) x y z v = (true, T) ∧ InE T (P + 1) K' ∧ (∀ p, p < P → ∀ a, a < 20 → NS T p a = NS D p a) ∧ T 14 2 = 0 ∧
      ((2 ≤ c ∧ putNewT false (cutAs c D N) (C 0 0) (C 0 1) x y z v = (true, cutAs (c - 1) T N)) ∨
       (c = 1 ∧ ∃ Tc L', putNewT false (cutAs c D N) (C 0 0) (C 0 1) x y z v = (false, Tc) ∧ Dead C L' T Tc P)) := by
  have hI1 := Inv_last hI hL
  have he1 : ¬ up D 14 10 (D 14 10 + 1) 15 3 = 0 := by rw [up_ne (by omega)]; exact he
  have h21 : up D 14 10 (D 14 10 + 1) 14 2 = 0 := by rw [up_ne (by omega)]; exact h2
  obtain ⟨hE1, hS1⟩ := InE_cg (E := up D 14 10 (D 14 10 + 1)) (fun j k q1 q2 => up_ne (by omega)) hE
  obtain ⟨s, T, K', p1, p2, p3, p4, p5⟩ := put_step (N := N) hB hI1 he1 h21 hE1 hP hc hc2
  have eu : up (cutAs c D N) 14 10 (cutAs c D N 14 10 + 1) = cutAs c (up D 14 10 (D 14 10 + 1)) N := cuA_up (by omega) (by omega)
  obtain ⟨hE2, hS2⟩ := InE_cg (E := fillT T s x (T 14 10) y z v) (fun j k q1 q2 => fillT_lo (by omega)) p2
  refine ⟨fillT T s x (T 14 10) y z v, K', ?_, hE2, fun p hp a ha => by rw [hS2, p3 p hp a ha, hS1], by rw [fillT_lo (by omega)]; exact p4, ?_⟩
  · unfold putNewT
    rw [p1]
  · rcases p5 with ⟨c1, q1⟩ | ⟨c1, Tc, q1, q2⟩
    · left
      refine ⟨c1, ?_⟩
      unfold putNewT
      rw [eu, q1]
      simp only
      rw [fill_cb]
      rfl
    · right
      refine ⟨c1, Tc, L + 1, ?_, q2.1, q2.2.1, fun a ha => by rw [hS2]; exact q2.2.2 a ha⟩
      unfold putNewT
      rw [eu, q1]
theorem erase_cb : eraseT (cutAs c E N) nw k = cutAs c (eraseT E nw k) N := by
  show up (clrT (up (up (cutAs c E N) 15 3 (E 15 3 + (E 15 1 - E 1 k))) 1 k (E 15 1)) (k * nw) nw) 0 k (E 0 k + 1) = cutAs c (up (clrT (up (up E 15 3 (E 15 3 + (E 15 1 - E 1 k))) 1 k (E 15 1)) (k * nw) nw) 0 k (E 0 k + 1)) N
  rw [cuA_up (by omega) (by omega), cuA_up (by omega) (by omega), clr_cb, cuA_up (by omega) (by omega)]
theorem erase_up (h : 16 ≤ j ∨ j = 14) : eraseT E nw k j n = E j n := by
  unfold eraseT
  rw [up_ne (by omega), clrT_hi _ _ _ _ _ (by omega), up_ne (by omega), up_ne (by omega)]
theorem Om_colR (hB : CB C) (hk : k < C 0 0) (hSv : ∀ s, s < tot C → D 13 s = bz (liveB D s)) : ∀ m i c P K E, i + m = C 0 1 → CI C L D E k i → E 14 2 = 0 → InE E P K → P + (cnt (fun j => liveB D (k * C 0 1 + j)) (C 0 1) - cnt (fun j => liveB D (k * C 0 1 + j)) i) ≤ 288 → 1 ≤ c → c ≤ 1000 →
    Om (-2) C c (cnt (fun j => liveB D (k * C 0 1 + j)) (C 0 1) - cnt (fun j => liveB D (k * C 0 1 + j)) i) P E N (colR true (C 0 0) (C 0 1) k m i E) (colR false (C 0 0) (C 0 1) k m i (cutAs c E N)) := by
  intro m
  induction m with
  | zero =>
    intro i c P K E hi h h2 hE hP hc hc2
    have e : i = C 0 1 := by omega
    subst e
    unfold colR
    rw [erase_cb, cuA_up (by omega) (by omega), show cutAs c (eraseT E (C 0 1) k) N 14 3 = eraseT E (C 0 1) k 14 3 from rfl, cuA_up (by omega) (by omega)]
    obtain ⟨hE2, hS2⟩ := InE_cg (E := up (up (eraseT E (C 0 1) k) 14 11 0) 14 3 (eraseT E (C 0 1) k 14 3 + 1)) (fun j n q1 q2 => by rw [up_ne (by omega), up_ne (by omega), erase_up (by omega)]) hE
    exact Om_le (Om_0 hE2 (fun p hp a ha => hS2 p a) (by rw [up_ne (by omega), up_ne (by omega), erase_up (by omega)]; exact h2) hc) (Nat.zero_le _)
  | succ m ih =>
    intro i c P K E hi h h2 hE hP hc hc2
    have hBk := blk (nw := C 0 1) hk
    have hT : tot C = C 0 0 * C 0 1 := rfl
    have hrow : E 13 (k * C 0 1 + i) = bz (liveB D (k * C 0 1 + i)) := (h.2.2.2.1 _).trans (hSv _ (by omega))
    unfold colR
    rw [show cutAs c E N 13 (k * C 0 1 + i) = E 13 (k * C 0 1 + i) from rfl, hrow]
    cases hlv : liveB D (k * C 0 1 + i) with
    | false =>
      rw [if_pos (by decide), if_pos (by decide)]
      have e : cnt (fun j => liveB D (k * C 0 1 + j)) (i + 1) = cnt (fun j => liveB D (k * C 0 1 + j)) i := by rw [cnt_s, hlv]; rfl
      have := ih (i + 1) c P K E (by omega) (CI_skip hlv h) h2 hE (by rw [e]; exact hP) hc hc2
      rw [e] at this
      exact this
    | true =>
      rw [if_neg (by decide), if_neg (by decide)]
      have e : cnt (fun j => liveB D (k * C 0 1 + j)) (i + 1) = cnt (fun j => liveB D (k * C 0 1 + j)) i + 1 := by rw [cnt_s, hlv]; rfl
      have hcl := cnt_lt (p := fun j => liveB D (k * C 0 1 + j)) (show i < C 0 1 by omega) hlv
      obtain ⟨hne, hst⟩ := CI_step hB hk (show i < C 0 1 by omega) hlv h true
      obtain ⟨s, T, K', p1, p2, p3, p4, p5⟩ := put_step (N := N) hB h.1 hne h2 hE (by omega) hc hc2
      rcases hst with ⟨q, -⟩ | ⟨-, s', T', q1, q2⟩
      · rw [h2] at q; exact absurd q (by decide)
      · rw [p1] at q1
        injection q1 with a1 a2
        injection a1 with a1
        subst a1; subst a2
        obtain ⟨hE2, hS2⟩ := InE_cg (E := copyT T (k * C 0 1 + i) s) (fun j n w1 w2 => copyT_lo (by omega)) p2
        have h22 : copyT T (k * C 0 1 + i) s 14 2 = 0 := by rw [copyT_lo (by omega)]; exact p4
        have hS3 : ∀ p, p < P → ∀ a, a < 20 → NS (copyT T (k * C 0 1 + i) s) p a = NS E p a := fun p hp a ha => (hS2 p a).trans (p3 p hp a ha)
        rw [p1]
        simp only
        rcases p5 with ⟨c1, w1⟩ | ⟨c1, Tc, w1, w2⟩
        · rw [w1]
          simp only
          rw [copy_cb]
          have := ih (i + 1) (c - 1) (P + 1) K' _ (by omega) q2 h22 hE2 (by omega) (by omega) (by omega)
          exact Om_le (Om_s hS3 c1 this) (by omega)
        · subst c1
          rw [w1]
          simp only
          have := ih (i + 1) 1000 (P + 1) K' _ (by omega) q2 h22 hE2 (by omega) (by omega) (by omega)
          obtain ⟨d1, d2, d3⟩ := w2
          exact Om_le (Om_d hS3 (L := L) ⟨d1, d2, fun a ha => by rw [hS2]; exact d3 a ha⟩ this) (by omega)
end
