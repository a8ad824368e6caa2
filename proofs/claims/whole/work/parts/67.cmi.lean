/-! ===== along a commit ===== -/
/-- along a commit of n parts, i of them put: D is the disk it began with -/
def CMI (C : xC) (L : Nat) (D E : xT) (n i : Nat) : Prop :=
  (Ok (C 0 0) (C 0 1) E ∧ InA (L + i) E ∧ InN C E ∧ InS C E ∧ InM C E ∧ InO E ∧ InB C E) ∧
  (∀ p, p < wpN E → ∃ s, s < tot C ∧ E 2 s = 3 ∧ sq E s = bsN E + 1 - wpN E + p ∧ E 4 s = i3 p ∧ E 5 s = i3 (wpN E)) ∧
  (∀ s, s < tot C → E 2 s = 3 → bsN E < sq E s → sq E s ≤ lsN D → ∃ p, p < xi (E 5 s) ∧ ∀ t, t < tot C → ¬ (E 2 t = 3 ∧ sq E t + xi (E 4 s) = sq E s + p ∧ E 4 t = i3 p ∧ E 5 t = E 5 s)) ∧
  (∀ s t i j, s < tot C → t < tot C → E 2 s = 3 → E 2 t = 3 → sq E s + xi (E 4 t) = sq E t + xi (E 4 s) → i < 4 → j < 4 → i3 i < E 6 s → i3 j < E 6 t → E 7 (s * 4 + i) = E 7 (t * 4 + j) → E 8 (s * 4 + i) = E 8 (t * 4 + j)) ∧
  (∀ s t i, s < tot C → t < tot C → E 2 s = 3 → E 2 t = 1 → i < 4 → i3 i < E 6 s → E 3 t = E 8 (s * 4 + i) → pgT E t = xi (E 7 (s * 4 + i))) ∧
  (∀ s, s < tot C → E 2 s = 3 → lsN D < sq E s → sq E s ≤ lsN D + i ∧ E 5 s = i3 n ∧ E 4 s = i3 (sq E s - (lsN D + 1)) ∧ ∀ j, j < 4 → i3 j < E 6 s → ∃ z, z < 20 ∧ E 7 (s * 4 + j) = i3 z ∧ E 8 (s * 4 + j) = E 9 z) ∧
  (∀ j, j < i → ∃ s, s < tot C ∧ E 2 s = 3 ∧ sq E s = lsN D + 1 + j ∧ E 4 s = i3 j ∧ E 5 s = i3 n) ∧
  lsN E = lsN D + i ∧ (∀ a, E 9 a = D 9 a) ∧ (∀ a, E 12 a = D 12 a) ∧ ∃ e, E 15 3 = i3 e ∧ n - i ≤ e ∧ e ≤ 36
section
variable {M : xM} {D E X Y Z T X' E' E'' X'' : xT} {C : xC} {R N : Nat → Int32} {fu b d L s o t k n m i j p q f l w nb nw a : Nat} {x y z v u : Int32} {nt : Bool}
theorem filR_spec2 (s : Nat) : ∀ (k cnt at' : Nat) (E : xT), at' + k = 20 → cnt ≤ 4 → ∀ n, cnt ≤ n → n < (filR s k cnt at' E).1 → ∃ z, z < 20 ∧ (filR s k cnt at' E).2.2 7 (s * 4 + n) = i3 z ∧ (filR s k cnt at' E).2.2 8 (s * 4 + n) = E 9 z ∧ keptT E z = true
  | 0, cnt, at', E, hk, hc, n, h1, h2 => absurd h2 (by show ¬ n < cnt; omega)
  | k + 1, cnt, at', E, hk, hc, n, h1, h2 => by
    unfold filR at h2 ⊢
    by_cases c : 4 ≤ cnt
    · rw [if_pos c] at h2; exact absurd h2 (by show ¬ n < cnt; omega)
    · rw [if_neg c] at h2 ⊢
      cases e : keptT E at' with
      | false =>
        rw [e] at h2
        simp only [Bool.false_eq_true, if_false] at h2 ⊢
        exact filR_spec2 s k cnt (at' + 1) E (by omega) hc n h1 h2
      | true =>
        rw [e] at h2
        simp only [if_true] at h2 ⊢
        have sp := filR_spec s k (cnt + 1) (at' + 1) (up (up E 7 (s * 4 + cnt) (i3 at')) 8 (s * 4 + cnt) (E 9 at')) (by omega) (by omega)
        rcases Nat.lt_or_ge cnt n with q | q
        · obtain ⟨z, g1, g2, g3, g4⟩ := filR_spec2 s k (cnt + 1) (at' + 1) (up (up E 7 (s * 4 + cnt) (i3 at')) 8 (s * 4 + cnt) (E 9 at')) (by omega) (by omega) n q h2
          refine ⟨z, g1, g2, by rw [g3, up_ne (by omega), up_ne (by omega)], ?_⟩
          unfold keptT at g4 ⊢
          rw [up_ne (by omega), up_ne (by omega), up_ne (by omega), up_ne (by omega)] at g4
          exact g4
        · have : n = cnt := by omega
          subst this
          rw [sp.2.2.2.2.1 7 _ (by omega), sp.2.2.2.2.1 8 _ (by omega), up_ne (by omega), up_eq, up_eq]
          exact ⟨at', by omega, rfl, rfl, e⟩
theorem CMI_inv (h : CMI C L D E n i) (hi : i < n) (hn : n ≤ 6) : Inv C (L + i) E := by
  obtain ⟨⟨hO, hA, hN, hS, hM, hOo, hIB⟩, c1, c2, c3, c4, c5, c6, c7, c8, c9, c10⟩ := h
  refine ⟨hO, hA, hN, hS, hM, ⟨c1, fun s hs hk hb => ?_, c3, c4⟩, hOo, hIB⟩
  rcases Nat.lt_or_ge (lsN D) (sq E s) with q | q
  · obtain ⟨g1, g2, g3, g4⟩ := c5 s hs hk q
    have hl : sq E s < 2147483648 := xi_lt _
    refine ⟨n - 1, by rw [g2, xi_i3 (by omega)]; omega, fun t ht r => ?_⟩
    have h1 := (idx_node hN ht r.1).2.2.1
    have h2 := r.2.1
    rw [g3, xi_i3 (by omega)] at h2
    omega
  · exact c2 s hs hk hb q
/-- all parts are put: it is the last whole commit -/
theorem CMI_end (h : CMI C L D E n n) (hn : n ≤ 6) (h1 : 1 ≤ n) : Inv C (L + n) (up (up (up E 15 5 (E 14 10)) 15 6 (i3 n)) 14 11 0) := by
  obtain ⟨⟨hO, hA, hN, hS, hM, hOo, hIB⟩, c1, c2, c3, c4, c5, c6, c7, c8, c9, c10⟩ := h
  obtain ⟨a1, a2, a3, a4, a5, a6, a7, a8, a9⟩ := hA
  have e : ∀ j k', (j ≠ 15 ∨ k' ≠ 5 ∧ k' ≠ 6) → (j ≠ 14 ∨ k' ≠ 11) → up (up (up E 15 5 (E 14 10)) 15 6 (i3 n)) 14 11 0 j k' = E j k' := fun j k' h1 h2 => by rw [up_ne (by omega), up_ne (by omega), up_ne (by omega)]
  have b5 : up (up (up E 15 5 (E 14 10)) 15 6 (i3 n)) 14 11 0 15 5 = i3 (lsN E) := by rw [up_ne (by omega), up_ne (by omega), up_eq]; exact a1
  have b6 : up (up (up E 15 5 (E 14 10)) 15 6 (i3 n)) 14 11 0 15 6 = i3 n := by rw [up_ne (by omega), up_eq]
  generalize up (up (up E 15 5 (E 14 10)) 15 6 (i3 n)) 14 11 0 = T at e b5 b6 ⊢
  have hbs : bsN T = lsN E := by unfold bsN; rw [b5, xi_i3 (by omega)]
  have hwp : wpN T = n := by unfold wpN; rw [b6, xi_i3 (by omega)]
  have hls : lsN T = lsN E := by unfold lsN; rw [e 14 10 (by omega) (by omega)]
  have hsq : ∀ t, sq T t = sq E t := fun t => by unfold sq; rw [e 3 t (by omega) (by omega)]
  have hpg : ∀ t, pgT T t = pgT E t := fun t => by unfold pgT; rw [e 4 t (by omega) (by omega), e 5 t (by omega) (by omega)]
  have e2 : ∀ t, T 2 t = E 2 t := fun t => e 2 t (by omega) (by omega)
  have e3 : ∀ t, T 3 t = E 3 t := fun t => e 3 t (by omega) (by omega)
  have e4 : ∀ t, T 4 t = E 4 t := fun t => e 4 t (by omega) (by omega)
  have e5 : ∀ t, T 5 t = E 5 t := fun t => e 5 t (by omega) (by omega)
  have e6 : ∀ t, T 6 t = E 6 t := fun t => e 6 t (by omega) (by omega)
  have e7 : ∀ t, T 7 t = E 7 t := fun t => e 7 t (by omega) (by omega)
  have e8 : ∀ t, T 8 t = E 8 t := fun t => e 8 t (by omega) (by omega)
  have e9 : ∀ t, T 9 t = E 9 t := fun t => e 9 t (by omega) (by omega)
  have hA2 : ∀ m, eraA T (C 0 1) m = eraA E (C 0 1) m := by
    intro m
    induction m with
    | zero => rfl
    | succ m ih => show eraA T (C 0 1) m + eraN T (C 0 1) m (C 0 1) = _ + _; rw [ih]; congr 1; unfold eraN; exact cnt_congr (fun i hi => by rw [e2])
  refine ⟨Ok_congr hO (fun j k' q => e j k' (by omega) (by omega)), ⟨by rw [hls, e 14 10 (by omega) (by omega)]; exact a1, by rw [hls]; exact a2, a3, by rw [hbs]; exact b5, by rw [hwp]; exact b6, by rw [hbs, hls]; exact Nat.le_refl _, by rw [hwp, hbs]; omega, by rw [hwp]; exact hn, fun q => by rw [hwp] at q; omega⟩, fun t ht => node_congr (e2 t) (e3 t) (e4 t) (e5 t) (e6 t) (fun n _ => ⟨e7 _, e8 _⟩) (by rw [hls]; exact Nat.le_refl _) (hN t ht), ?_, ?_, ⟨fun p hp => ?_, fun s hs hk hb => ?_, ?_, ?_⟩, ?_, ?_⟩
  · unfold InS isN at hS ⊢
    simp only [e2, e3, e4, e5, e6, e7, e8]
    exact hS
  · unfold InM at hM ⊢
    simp only [e2, e3, e9, hls, hpg]
    exact hM
  · rw [hwp] at hp ⊢
    rw [hbs]
    obtain ⟨s, g1, g2, g3, g4, g5⟩ := c6 p hp
    exact ⟨s, g1, by rw [e2]; exact g2, by rw [hsq, g3]; omega, by rw [e4]; exact g4, by rw [e5]; exact g5⟩
  · exfalso
    rw [e2] at hk
    rw [hbs, hsq] at hb
    have := (idx_node hN hs hk).2.2.1
    omega
  · simp only [e2, e4, e6, e7, e8, hsq]
    exact c3
  · simp only [e2, e3, e6, e7, e8, hpg]
    exact c4
  · unfold InO at hOo ⊢
    simp only [e 14 1 (by omega) (by omega), e 14 2 (by omega) (by omega), fun f => e 11 f (by omega) (by omega), fun f => e 12 f (by omega) (by omega)]
    exact hOo
  · unfold InB at hIB ⊢
    simp only [hA2, e2, e 15 3 (by omega) (by omega), e 15 4 (by omega) (by omega), fun k' => e 1 k' (by omega) (by omega)]
    exact hIB
end
