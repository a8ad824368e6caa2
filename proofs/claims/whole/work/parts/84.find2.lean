/-! ===== what the finder finds ===== -/
def WEl (D : xT) (m a q : Nat) : Prop := ∃ s i, s < m ∧ isWholeT D s = true ∧ i < xi (D 6 s) ∧ xi (D 7 (s * 4 + i)) = a ∧ xi (D 8 (s * 4 + i)) = q
def DAl (D : xT) (m a n : Nat) : Prop := ∃ s, s < m ∧ D 2 s = 1 ∧ pgT D s = a ∧ sq D s = n
def GOl (D : xT) (m f n : Nat) : Prop := ∃ s, s < m ∧ D 2 s = 2 ∧ xi (D 4 s) = f ∧ sq D s = n
section
variable {M : xM} {D E X Y Z T P X' E' E0 E'' X'' : xT} {C : xC} {R N : Nat → Int32} {fu b d L L' s o t k n m i j p q f l w nb nw a at' r g c : Nat} {x y z v u : Int32} {nt : Bool}
theorem partR_18 (hc : D 6 s = i3 c) (hc4 : c ≤ 4) : ∀ (m i : Nat) (E : xT), i + m = 4 → (∀ j k, j < 16 → E j k = D j k) →
    ((partR s m i E 18 a = E 18 a ∧ ∀ j, i ≤ j → j < c → xi (D 7 (s * 4 + j)) ≠ a) ∨ ∃ j, i ≤ j ∧ j < c ∧ xi (D 7 (s * 4 + j)) = a ∧ partR s m i E 18 a = D 8 (s * 4 + j))
  | 0, i, E, hi, hE => Or.inl ⟨rfl, fun j h1 h2 => absurd h2 (by omega)⟩
  | m + 1, i, E, hi, hE => by
    unfold partR
    rw [hE 6 s (by omega), hc, hE 7 _ (by omega), hE 8 _ (by omega)]
    by_cases h : i < c
    · rw [if_pos ((i3_lt (by omega) (by omega)).mpr h)]
      have ih := partR_18 hc hc4 m (i + 1) (up E 18 (xi (D 7 (s * 4 + i))) (D 8 (s * 4 + i))) (by omega) (fun j k hj => by rw [up_ne (by omega)]; exact hE j k hj)
      rcases ih with ⟨e1, e2⟩ | ⟨j, h1, h2, h3, h4⟩
      · by_cases ca : xi (D 7 (s * 4 + i)) = a
        · right
          refine ⟨i, Nat.le_refl _, h, ca, ?_⟩
          rw [e1, ca, up_eq]
        · left
          refine ⟨by rw [e1, up_ne (by omega)], fun j h1 h2 => ?_⟩
          rcases Nat.eq_or_lt_of_le h1 with q | q
          · rw [← q]; exact ca
          · exact e2 j q h2
      · exact Or.inr ⟨j, by omega, h2, h3, h4⟩
    · rw [if_neg (fun q => h ((i3_lt (by omega) (by omega)).mp q))]
      exact Or.inl ⟨rfl, fun j h1 h2 => absurd h2 (by omega)⟩
theorem whole_cg (h : ∀ j k, j < 16 → E j k = D j k) : isWholeT E s = isWholeT D s := by
  unfold isWholeT
  rw [h 2 s (by omega), h 3 s (by omega), h 15 5 (by omega), h 15 6 (by omega)]
theorem whole_3 (h : isWholeT D s = true) : D 2 s = 3 := by
  unfold isWholeT at h
  simp only [Bool.and_eq_true, decide_eq_true_eq] at h
  exact h.1
theorem fnd1F_18 (hN : InN C D) (ha : a < 20) : ∀ s, s ≤ tot C → (fnd1F D s 18 a = 0 ∧ ∀ q, ¬ WEl D s a q) ∨ ∃ q, fnd1F D s 18 a = i3 q ∧ q < 2147483648 ∧ WEl D s a q
  | 0, _ => Or.inl ⟨by show fclrT D 18 a = 0; unfold fclrT; rw [if_neg (by omega), if_neg (by omega), if_pos ⟨rfl, ha⟩], fun q h => by obtain ⟨s, i, h, -⟩ := h; exact absurd h (Nat.not_lt_zero _)⟩
  | s + 1, hs => by
    have ih := fnd1F_18 hN ha s (by omega)
    have hlo : ∀ j k, j < 16 → fnd1F D s j k = D j k := fun j k hj => fnd1F_lo (by omega) s
    show (fnd1 (fnd1F D s) s 18 a = 0 ∧ _) ∨ ∃ q, fnd1 (fnd1F D s) s 18 a = i3 q ∧ _
    unfold fnd1
    rw [whole_cg hlo]
    have keep : ∀ v : Int32, v = fnd1F D s 18 a → (∀ q, WEl D (s + 1) a q → WEl D s a q) → ((v = 0 ∧ ∀ q, ¬ WEl D (s + 1) a q) ∨ ∃ q, v = i3 q ∧ q < 2147483648 ∧ WEl D (s + 1) a q) := by
      intro v hv hw
      rcases ih with ⟨e1, e2⟩ | ⟨q, e1, e2, s', i', w1, w2⟩
      · exact Or.inl ⟨hv.trans e1, fun q h => e2 q (hw q h)⟩
      · exact Or.inr ⟨q, hv.trans e1, e2, s', i', by omega, w2⟩
    have low : ∀ q, WEl D (s + 1) a q → (isWholeT D s = true → ∀ i, i < xi (D 6 s) → xi (D 7 (s * 4 + i)) ≠ a) → WEl D s a q := by
      intro q hw hn
      obtain ⟨s', i', w1, w2, w3, w4, w5⟩ := hw
      rcases Nat.lt_or_ge s' s with c | c
      · exact ⟨s', i', c, w2, w3, w4, w5⟩
      · have : s' = s := by omega
        subst this
        exact absurd w4 (hn w2 i' w3)
    by_cases hw : isWholeT D s = true
    · rw [if_pos hw]
      have hk := whole_3 hw
      obtain ⟨n1, n2, n3, p, n, c, n4, n5, n6, n7, n8, n9, n10, n11⟩ := idx_node hN (show s < tot C by omega) hk
      rcases partR_18 (a := a) n10 n6 4 0 (fnd1F D s) rfl hlo with ⟨e1, e2⟩ | ⟨j, -, h2, h3, h4⟩
      · exact keep _ e1 (fun q hq => low q hq (fun _ i hi => e2 i (Nat.zero_le _) (by rw [n10, xi_i3 (by omega)] at hi; exact hi)))
      · right
        obtain ⟨z, q, m1, m2, m3, m4, m5⟩ := n11 j h2
        have hq : q < 2147483648 := by have := xi_lt (D 3 s); have : sq D s < 2147483648 := this; omega
        refine ⟨q, by rw [h4, m3], hq, s, j, by omega, hw, by rw [n10, xi_i3 (by omega)]; exact h2, h3, by rw [m3, xi_i3 hq]⟩
    · rw [if_neg hw]
      refine keep _ ?_ (fun q hq => low q hq (fun h => absurd h hw))
      split
      · exact up_ne (by omega)
      · rfl
theorem xmax_n (h : g < 2147483648) (h2 : n < 2147483648) : xmaxI (i3 g) (i3 n) = i3 (if g < n then n else g) := by
  unfold xmaxI
  by_cases c : g < n
  · rw [if_pos c, if_pos ((i3_lt h h2).mpr c)]
  · rw [if_neg c, if_neg (fun q => c ((i3_lt h h2).mp q))]
theorem fnd1F_19 (hA : InA L D) (hN : InN C D) (hc5 : C 0 3 ≤ 5) (hf : f < 5) : ∀ s, s ≤ tot C → ∃ g, fnd1F D s 19 f = i3 g ∧ g < 2147483648 ∧ (g = 0 ∨ GOl D s f g ∧ bsN D < g) ∧ ∀ g', GOl D s f g' → bsN D < g' → g' ≤ g
  | 0, _ => ⟨0, by show fclrT D 19 f = i3 0; unfold fclrT; rw [if_neg (by omega), if_neg (by omega), if_neg (by omega), if_pos ⟨rfl, hf⟩]; rfl, by omega, Or.inl rfl, fun g' h => by obtain ⟨s, h, -⟩ := h; exact absurd h (Nat.not_lt_zero _)⟩
  | s + 1, hs => by
    obtain ⟨g, e1, e2, e3, e4⟩ := fnd1F_19 hA hN hc5 hf s (by omega)
    have hlo : ∀ j k, j < 16 → fnd1F D s j k = D j k := fun j k hj => fnd1F_lo (by omega) s
    have keep : (∀ g', GOl D (s + 1) f g' → bsN D < g' → GOl D s f g') → ∀ v : Int32, v = fnd1F D s 19 f → ∃ g, v = i3 g ∧ g < 2147483648 ∧ (g = 0 ∨ GOl D (s + 1) f g ∧ bsN D < g) ∧ ∀ g', GOl D (s + 1) f g' → bsN D < g' → g' ≤ g := by
      intro hl v hv
      refine ⟨g, hv.trans e1, e2, ?_, fun g' h h2 => e4 g' (hl g' h h2) h2⟩
      rcases e3 with q | ⟨⟨s', w1, w2⟩, q⟩
      · exact Or.inl q
      · exact Or.inr ⟨⟨s', by omega, w2⟩, q⟩
    have low : ∀ g', GOl D (s + 1) f g' → ¬ (D 2 s = 2 ∧ xi (D 4 s) = f ∧ sq D s = g') → GOl D s f g' := by
      intro g' hw hn
      obtain ⟨s', w1, w2⟩ := hw
      rcases Nat.lt_or_ge s' s with c | c
      · exact ⟨s', c, w2⟩
      · have : s' = s := by omega
        subst this
        exact absurd w2 hn
    show ∃ g, fnd1 (fnd1F D s) s 19 f = i3 g ∧ _
    unfold fnd1
    rw [whole_cg hlo]
    by_cases hw : isWholeT D s = true
    · rw [if_pos hw]
      have hk := whole_3 hw
      exact keep (fun g' h h2 => low g' h (fun q => by rw [hk] at q; exact absurd q.1 (by decide))) _ (partR_lo _ _ _ _ _ (by omega))
    · rw [if_neg hw, hlo 2 s (by omega), hlo 3 s (by omega), hlo 4 s (by omega), hlo 15 5 (by omega)]
      by_cases hg : D 2 s = 2 ∧ D 15 5 < D 3 s
      · rw [dif_pos hg]
        have hq := node_seq (hN s (by omega)) (Or.inr (Or.inl hg.1))
        have hsl : sq D s < 2147483648 := xi_lt _
        have hgt : bsN D < sq D s := by
          have := hg.2
          rw [hq.1, hA.2.2.2.1] at this
          exact (i3_lt (xi_lt _) (xi_lt _)).mp this
        by_cases cf : xi (D 4 s) = f
        · rw [cf, up_eq, e1, hq.1, xmax_n e2 hsl]
          refine ⟨_, rfl, by split <;> omega, ?_, fun g' h h2 => ?_⟩
          · right
            by_cases c : g < sq D s
            · rw [if_pos c]; exact ⟨⟨s, by omega, hg.1, cf, rfl⟩, hgt⟩
            · rw [if_neg c]
              rcases e3 with q | ⟨⟨s', w1, w2⟩, q⟩
              · omega
              · exact ⟨⟨s', by omega, w2⟩, q⟩
          · by_cases c : sq D s = g'
            · split <;> omega
            · have := e4 g' (low g' h (fun q => c q.2.2)) h2
              split <;> omega
        · exact keep (fun g' h h2 => low g' h (fun q => cf q.2.1)) _ (up_ne (by omega))
      · rw [dif_neg hg]
        refine keep (fun g' h h2 => low g' h (fun q => ?_)) _ rfl
        refine hg ⟨q.1, ?_⟩
        have hq := node_seq (hN s (by omega)) (Or.inr (Or.inl q.1))
        rw [hq.1, hA.2.2.2.1]
        exact (i3_lt (xi_lt _) (xi_lt _)).mpr (by have e6 := q.2.2; unfold sq at e6; rw [e6]; exact h2)
end
