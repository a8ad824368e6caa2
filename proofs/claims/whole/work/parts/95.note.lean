/-! ===== the notes of a work's puts ===== -/
/-- P puts are noted, K maps are kept, each once -/
def InE (D : xT) (P K : Nat) : Prop := P ≤ 288 ∧ K ≤ P ∧ D 24 0 = i3 P ∧ D 24 1 = i3 K ∧ (∀ p, p < P → ∃ m, m < K ∧ D 22 p = i3 m) ∧
  (∀ m, m < K → D 21 m = i3 (cnt (fun p => decide (D 22 p = i3 m)) P)) ∧ (∀ m n, m < K → n < K → (∀ a, a < 20 → D 20 (m * 20 + a) = D 20 (n * 20 + a)) → m = n) ∧ ∀ m, m < K → ∃ p, p < P ∧ D 22 p = i3 m
/-- what page a says by the note of a put (from 0) -/
def NS (D : xT) (p a : Nat) : Int32 := D 20 (xi (D 22 p) * 20 + a)
section
variable {M : xM} {D E X Y Z T X' E' E0 : xT} {C : xC} {R N G G' : Nat → Int32} {fu b d L s o t k n m i j p q f l w nb nw a r g c e K P Q : Nat} {x y z v u : Int32} {nt : Bool}
theorem alike_iff {g : Nat → Int32} : alikeB D m g = true ↔ ∀ a, a < 20 → D 20 (m * 20 + a) = g a := by
  unfold alikeB
  cases e : lst (fun a => ! decide (D 20 (m * 20 + a) = g a)) 20 with
  | none =>
    simp only [true_iff]
    intro a ha
    have := lst_none.mp e a ha
    simpa using this
  | some a =>
    simp only [Bool.false_eq_true, false_iff]
    intro h
    obtain ⟨h1, h2, -⟩ := lst_some.mp e
    simp only [Bool.not_eq_true', decide_eq_false_iff_not] at h2
    exact h2 (h a h1)
theorem last_some {g : Nat → Int32} : ∀ {k m}, lastAl D g k = some m → m < k ∧ alikeB D m g = true
  | 0, m, h => by cases h
  | k + 1, m, h => by
    unfold lastAl at h
    cases e : alikeB D k g with
    | true => rw [e, if_pos rfl] at h; injection h with h; subst h; exact ⟨by omega, e⟩
    | false => rw [e, if_neg (by decide)] at h; have := last_some h; exact ⟨by omega, this.2⟩
theorem last_none {g : Nat → Int32} : ∀ {k}, lastAl D g k = none → ∀ m, m < k → alikeB D m g = false
  | 0, _, m, h => absurd h (Nat.not_lt_zero _)
  | k + 1, h, m, hm => by
    unfold lastAl at h
    cases e : alikeB D k g with
    | true => rw [e, if_pos rfl] at h; cases h
    | false =>
      rw [e, if_neg (by decide)] at h
      rcases Nat.lt_or_ge m k with c | c
      · exact last_none h m c
      · have : m = k := by omega
        rw [this]; exact e
theorem InE_add (hE : InE D P K) (hP : P < 288) (hm : m < K) (h20 : ∀ k, E 20 k = D 20 k) (h21 : ∀ k, E 21 k = if k = m then D 21 m + 1 else D 21 k) (h22 : ∀ k, E 22 k = if k = P then i3 m else D 22 k) (h0 : E 24 0 = i3 (P + 1)) (h1 : E 24 1 = D 24 1) : InE E (P + 1) K := by
  obtain ⟨a1, a2, a3, a4, a5, a6, a7⟩ := hE
  refine ⟨by omega, by omega, h0, by rw [h1]; exact a4, fun p hp => ?_, fun n hn => ?_, ⟨fun n n' q1 q2 q3 => a7.1 n n' q1 q2 (fun a ha => by rw [← h20, ← h20]; exact q3 a ha), fun n hn => by
    obtain ⟨p, p1, p2⟩ := a7.2 n hn
    exact ⟨p, by omega, by rw [h22, if_neg (by omega)]; exact p2⟩⟩⟩
  · rw [h22]
    by_cases c : p = P
    · rw [if_pos c]; exact ⟨m, hm, rfl⟩
    · rw [if_neg c]; exact a5 p (by omega)
  · have hc : cnt (fun p => decide (E 22 p = i3 n)) (P + 1) = cnt (fun p => decide (D 22 p = i3 n)) P + (if n = m then 1 else 0) := by
      rw [cnt_s, cnt_congr (q := fun p => decide (D 22 p = i3 n)) (fun i hi => by rw [h22, if_neg (by omega)]), h22, if_pos rfl]
      by_cases c : n = m
      · rw [if_pos c, c, decide_eq_true rfl, if_pos rfl]
      · rw [if_neg c, decide_eq_false (fun q => c ((i3_eq (by omega) (by omega)).mp q).symm), if_neg (by decide)]; rfl
    rw [hc, h21]
    by_cases c : n = m
    · rw [if_pos c, if_pos c, ← c, a6 n hn, i3_add1]
    · rw [if_neg c, if_neg c, a6 n hn]; rfl
theorem noteAt_is (hP : P < 288) (h0 : D 24 0 = i3 P) : (∀ k, noteAt D m 20 k = D 20 k) ∧ (∀ k, noteAt D m 21 k = if k = m then D 21 m + 1 else D 21 k) ∧ (∀ k, noteAt D m 22 k = if k = P then i3 m else D 22 k) ∧ noteAt D m 24 0 = i3 (P + 1) ∧ noteAt D m 24 1 = D 24 1 := by
  unfold noteAt
  simp only [h0, xi_i3 (show P < 2147483648 by omega)]
  refine ⟨fun k => ?_, fun k => ?_, fun k => ?_, ?_, ?_⟩
  · rw [up_ne (by omega), up_ne (by omega), up_ne (by omega)]
  · rw [up_ne (by omega), up_ne (by omega)]
    by_cases c : k = m
    · rw [if_pos c, c, up_eq]
    · rw [if_neg c, up_ne (by omega)]
  · rw [up_ne (by omega)]
    by_cases c : k = P
    · rw [if_pos c, c, up_eq]
    · rw [if_neg c, up_ne (by omega), up_ne (by omega)]
  · rw [up_eq, i3_add1]
  · rw [up_ne (by omega), up_ne (by omega), up_ne (by omega)]
/-- a put more is noted -/
theorem note_is (hE : InE D P K) (hP : P < 288) : ∃ Q, InE (noteT D) (P + 1) Q ∧ (∀ p, p < P → ∀ a, a < 20 → NS (noteT D) p a = NS D p a) ∧ ∀ a, a < 20 → NS (noteT D) P a = D 17 a := by
  have hE' := hE
  obtain ⟨a1, a2, a3, a4, a5, a6, a7⟩ := hE
  have hlt : D 24 0 < 288 := by rw [a3]; exact (i3_lt (b := 288) (by omega) (by omega)).mpr hP
  unfold noteT
  rw [if_pos hlt, a4, xi_i3 (by omega)]
  cases e : lastAl D (D 17) K with
  | some m =>
    show ∃ Q, InE (noteAt D m) (P + 1) Q ∧ (∀ p, p < P → ∀ a, a < 20 → NS (noteAt D m) p a = NS D p a) ∧ ∀ a, a < 20 → NS (noteAt D m) P a = D 17 a
    obtain ⟨m1, m2⟩ := last_some e
    obtain ⟨b1, b2, b3, b4, b5⟩ := @noteAt_is D m P hP a3
    refine ⟨K, InE_add hE' hP m1 b1 b2 b3 b4 b5, fun p hp a ha => ?_, fun a ha => ?_⟩
    · unfold NS
      rw [b1, b3, if_neg (by omega)]
    · unfold NS
      rw [b1, b3, if_pos rfl, xi_i3 (by omega)]
      exact alike_iff.mp m2 a ha
  | none =>
    show ∃ Q, InE (noteAt (noteNew D K) K) (P + 1) Q ∧ (∀ p, p < P → ∀ a, a < 20 → NS (noteAt (noteNew D K) K) p a = NS D p a) ∧ ∀ a, a < 20 → NS (noteAt (noteNew D K) K) P a = D 17 a
    have hn := last_none e
    have n0 : noteNew D K 24 0 = i3 P := by
      unfold noteNew cpT
      rw [up_ne (by omega), up_ne (by omega), if_neg (by omega)]; exact a3
    have n20 : ∀ k, noteNew D K 20 k = if K * 20 ≤ k ∧ k < K * 20 + 20 then D 17 (k - K * 20) else D 20 k := by
      intro k
      unfold noteNew
      rw [up_ne (by omega), up_ne (by omega)]
      unfold cpT
      by_cases c : K * 20 ≤ k ∧ k < K * 20 + 20
      · rw [if_pos ⟨rfl, c⟩, if_pos c, Nat.zero_add]
      · rw [if_neg (fun q => c q.2), if_neg c]
    have n21 : ∀ k, noteNew D K 21 k = if k = K then 0 else D 21 k := by
      intro k
      unfold noteNew
      rw [up_ne (by omega)]
      by_cases c : k = K
      · rw [if_pos c, c, up_eq]
      · rw [if_neg c, up_ne (by omega)]
        unfold cpT
        rw [if_neg (by omega)]
    have n22 : ∀ k, noteNew D K 22 k = D 22 k := by
      intro k
      unfold noteNew
      rw [up_ne (by omega), up_ne (by omega)]
      unfold cpT
      rw [if_neg (by omega)]
    have n1 : noteNew D K 24 1 = i3 (K + 1) := by
      unfold noteNew
      have e1 : cpT D 17 20 0 (K * 20) 20 24 1 = D 24 1 := by unfold cpT; rw [if_neg (by omega)]
      rw [up_eq, a4, i3_add1]
    obtain ⟨b1, b2, b3, b4, b5⟩ := @noteAt_is (noteNew D K) K P hP n0
    refine ⟨K + 1, ⟨by omega, by omega, b4, by rw [b5]; exact n1, fun p hp => ?_, fun n hnn => ?_, ⟨fun n n' q1 q2 q3 => ?_, fun n hnn => ?_⟩⟩, fun p hp a ha => ?_, fun a ha => ?_⟩
    · rw [b3]
      by_cases c : p = P
      · rw [if_pos c]; exact ⟨K, by omega, rfl⟩
      · rw [if_neg c, n22]
        obtain ⟨m, m1, m2⟩ := a5 p (by omega)
        exact ⟨m, by omega, m2⟩
    · rw [b2]
      have hc : cnt (fun p => decide (noteAt (noteNew D K) K 22 p = i3 n)) (P + 1) = cnt (fun p => decide (D 22 p = i3 n)) P + (if n = K then 1 else 0) := by
        rw [cnt_s, cnt_congr (q := fun p => decide (D 22 p = i3 n)) (fun i hi => by rw [b3, if_neg (by omega), n22]), b3, if_pos rfl]
        by_cases c : n = K
        · rw [if_pos c, c, decide_eq_true rfl, if_pos rfl]
        · rw [if_neg c, decide_eq_false (fun q => c ((i3_eq (by omega) (by omega)).mp q).symm), if_neg (by decide)]; rfl
      rw [hc]
      by_cases c : n = K
      · rw [if_pos c, if_pos c, n21, if_pos rfl]
        have : cnt (fun p => decide (D 22 p = i3 n)) P = 0 := cnt_zero (fun p hp => by
          obtain ⟨m, m1, m2⟩ := a5 p hp
          rw [m2]
          exact decide_eq_false (fun q => by have := (i3_eq (by omega) (by omega)).mp q; omega))
        rw [this]; rfl
      · rw [if_neg c, if_neg c, n21, if_neg c, a6 n (by omega)]; rfl
    · have old : ∀ m, m < K → ∀ a, a < 20 → noteAt (noteNew D K) K 20 (m * 20 + a) = D 20 (m * 20 + a) := fun m hm a ha => by rw [b1, n20, if_neg (by omega)]
      have new : ∀ a, a < 20 → noteAt (noteNew D K) K 20 (K * 20 + a) = D 17 a := fun a ha => by rw [b1, n20, if_pos (by omega), show K * 20 + a - K * 20 = a by omega]
      have no : ∀ m, m < K → ¬ ∀ a, a < 20 → D 20 (m * 20 + a) = D 17 a := fun m hm q => by
        have := alike_iff.mpr q
        rw [hn m hm] at this
        exact absurd this (by decide)
      by_cases c1 : n = K
      · by_cases c2 : n' = K
        · omega
        · exfalso
          subst c1
          exact no n' (by omega) (fun a ha => by rw [← old n' (by omega) a ha, ← q3 a ha]; exact new a ha)
      · by_cases c2 : n' = K
        · exfalso
          subst c2
          exact no n (by omega) (fun a ha => by rw [← old n (by omega) a ha, q3 a ha]; exact new a ha)
        · exact a7.1 n n' (by omega) (by omega) (fun a ha => by rw [← old n (by omega) a ha, ← old n' (by omega) a ha]; exact q3 a ha)
    · by_cases c : n = K
      · exact ⟨P, by omega, by rw [b3, if_pos rfl, c]⟩
      · obtain ⟨p, p1, p2⟩ := a7.2 n (by omega)
        exact ⟨p, by omega, by rw [b3, if_neg (by omega), n22]; exact p2⟩
    · unfold NS
      obtain ⟨m, m1, m2⟩ := a5 p hp
      rw [b3, if_neg (by omega), n22, m2, xi_i3 (by omega), b1, n20, if_neg (by omega)]
    · unfold NS
      rw [b3, if_pos rfl, xi_i3 (by omega), b1, n20, if_pos (by omega), show K * 20 + a - K * 20 = a by omega]
end
