/-! ===== collects of the reference, whole ===== -/
section
variable {M : xM} {D E X Y Z T X' E' E'' X'' : xT} {C : xC} {R N : Nat → Int32} {fu b d L s o t k n m i j p q f l w nb nw a : Nat} {x y z v u : Int32} {nt : Bool}
theorem wipeX_o (h : j ≠ 95 ∨ ((q < o ∨ o + n ≤ q) ∧ q ≠ b + 8 + k ∧ q ≠ b + 7)) : wipeX X b o n k j q = X j q := by
  unfold wipeX
  rw [up_ne (by omega), up_ne (by omega)]
  exact if_neg (by omega)
theorem Rel_wiped (hB : CB C) (hR : Rel C b E X) (hk : k < C 0 0) :
    Rel C b (up (up (eraseT E (C 0 1) k) 14 11 0) 14 3 (eraseT E (C 0 1) k 14 3 + 1)) (wipeX (up X 0 22 (-1)) b (b + 34 + 13 * (k * C 0 1)) (13 * C 0 1) k) := by
  have hW := wiped_erase (C := C) (D := E) (k := k) (v := eraseT E (C 0 1) k 14 3 + 1)
  have h61 := hB.2.1
  have h6 := hB.1
  have h36 := tot36 hB
  have hT : tot C = C 0 0 * C 0 1 := rfl
  have hBk := blk (nw := C 0 1) hk
  have e0 : ∀ k', up (up (eraseT E (C 0 1) k) 14 11 0) 14 3 (eraseT E (C 0 1) k 14 3 + 1) 0 k' = if k' = k then E 0 k + 1 else E 0 k' := by
    intro k'
    rw [up_ne (by omega), up_ne (by omega)]
    unfold eraseT
    by_cases c : k' = k
    · rw [if_pos c, c, up_eq]
    · rw [if_neg c, up_ne (by omega), clrT_hi _ _ _ _ _ (by omega), up_ne (by omega), up_ne (by omega)]
  have e3 : up (up (eraseT E (C 0 1) k) 14 11 0) 14 3 (eraseT E (C 0 1) k 14 3 + 1) 14 3 = E 14 3 + 1 := by rw [up_eq, eraseT_lo (by omega) (by omega)]
  generalize up (up (eraseT E (C 0 1) k) 14 11 0) 14 3 (eraseT E (C 0 1) k 14 3 + 1) = T at hW e0 e3 ⊢
  obtain ⟨w1, w2, w3, w4, w5, w6, w7, w8, w9, w10⟩ := hW
  obtain ⟨g0, g1, g2, g3, g4, g5, g6, g7, g8, g9⟩ := hR
  have rd : ∀ q, ((q < b + 34 + 13 * (k * C 0 1) ∨ b + 34 + 13 * (k * C 0 1) + 13 * C 0 1 ≤ q) ∧ q ≠ b + 8 + k ∧ q ≠ b + 7) → wipeX (up X 0 22 (-1)) b (b + 34 + 13 * (k * C 0 1)) (13 * C 0 1) k 95 q = X 95 q := fun q h => by rw [wipeX_o (Or.inr h), up_ne (by omega)]
  have f11 : T 11 = E 11 := funext fun k' => w3 11 k' (by omega)
  have f12 : T 12 = E 12 := funext fun k' => w3 12 k' (by omega)
  refine ⟨?_, ?_, ?_, ?_, ?_, ?_, ?_, fun k' hk' => ?_, fun k' hk' => ?_, fun t ht => ?_⟩
  · rw [rd _ (by omega), w7]; exact g0
  · rw [rd _ (by omega), w4 4 (by decide)]; exact g1
  · rw [rd _ (by omega), w5]; exact g2
  · rw [rd _ (by omega), w6]; exact g3
  · rw [rd _ (by omega), f11]; exact g4
  · rw [rd _ (by omega), f12]; exact g5
  · rw [e3]; unfold wipeX; rw [up_eq, up_ne (by omega), g6]
  · rw [e0]
    by_cases c : k' = k
    · subst c
      rw [if_pos rfl]
      unfold wipeX
      rw [up_ne (by omega), up_eq, up_ne (by omega), g7 _ hk']
    · rw [if_neg c, rd _ (by omega)]; exact g7 k' hk'
  · rw [rd _ (by omega), w3 9 _ (by omega)]; exact g8 k' hk'
  · by_cases c : k * C 0 1 ≤ t ∧ t < k * C 0 1 + C 0 1
    · have hz := w2 t c.1 c.2
      refine ⟨?_, fun q => absurd hz.1 q, fun q => by rw [hz.1] at q; exact absurd q (by decide)⟩
      rw [hz.1]
      unfold wipeX
      rw [up_ne (by omega), up_ne (by omega)]
      exact if_pos ⟨rfl, by omega, by omega⟩
    · have ho : t < k * C 0 1 ∨ k * C 0 1 + C 0 1 ≤ t := by omega
      have rs : ∀ n, n < 13 → wipeX (up X 0 22 (-1)) b (b + 34 + 13 * (k * C 0 1)) (13 * C 0 1) k 95 (b + 34 + 13 * t + n) = X 95 (b + 34 + 13 * t + n) := fun n hn => rd _ (by omega)
      rw [w1 t 2 (by omega) (by omega) ho, w1 t 3 (by omega) (by omega) ho, w1 t 4 (by omega) (by omega) ho, w1 t 5 (by omega) (by omega) ho, w1 t 6 (by omega) (by omega) ho]
      refine ⟨(rs 0 (by omega)).trans (g9 t ht).1, fun q => ?_, fun q n hn hl => ?_⟩
      · rw [rs 1 (by omega), rs 2 (by omega), rs 3 (by omega), rs 4 (by omega)]; exact (g9 t ht).2.1 q
      · rw [rs (5 + 2 * n) (by omega), rs (6 + 2 * n) (by omega), w3 7 _ (by omega), w3 8 _ (by omega)]; exact (g9 t ht).2.2 q n hn hl
theorem t_colLoop (h : Lay M) (hb : b ≤ 2140) (hB : CB C) (hf : 100 < fu) (hk : k < C 0 0) (hSv : ∀ s, s < tot C → D 13 s = bz (liveB D s)) (nt : Bool) : ∀ (m i n : Nat) (E X : xT), i + m = C 0 1 → m < n → CI C L D E k i → Rel C b E X → MCfg C X →
    ∃ X', L_X12_collects_68 fu n 0 (i3 b) (i3 k) (i3 (lvN (fun j => liveB D (k * C 0 1 + j)) (C 0 1))) (i3 i) (mmb X M) = some ((colR nt (C 0 0) (C 0 1) k m i E).1, mmb X' M) ∧ Rel C b (colR nt (C 0 0) (C 0 1) k m i E).2 X' ∧ MCfg C X' ∧ Fm b X X' ∧ X' 0 22 = -1 ∧ Pc nt b E (colR nt (C 0 0) (C 0 1) k m i E).2 X X'
  | m, i, 0, E, X, hi, hn, hc, hR, hM => absurd hn (Nat.not_lt_zero _)
  | 0, i, n + 1, E, X, hi, hn, hc, hR, hM => by
    have h61 := hB.2.1
    have h6 := hB.1
    have h36 := tot36 hB
    have hT : tot C = C 0 0 * C 0 1 := rfl
    have hBk := blk (nw := C 0 1) hk
    have e : i = C 0 1 := by omega
    subst e
    refine ⟨wipeX (up X 0 22 (-1)) b (b + 34 + 13 * (k * C 0 1)) (13 * C 0 1) k, ?_, Rel_wiped hB hR hk, MCfg_90 hM (fun k' => by rw [wipeX_o (by omega), up_ne (by omega)]), ⟨fun j k' h1 h2 h3 h4 h5 => by rw [wipeX_o (by omega), up_ne (by omega)], fun k' hk' => by rw [wipeX_o (by omega), up_ne (by omega)], fun b' hb' hne e => ?_⟩, by rw [wipeX_o (by omega), up_eq], Pc_rf (by rw [wipeX_o (by omega), up_ne (by omega)]) ?_⟩
    · unfold L_X12_collects_68
      rw [t_wide h hM, Option.bind_some, if_pos (Int32.le_refl _)]
      simp only [p_0]
      exact t_wipe h (MCfg_90 hM (fun k' => up_ne (by omega))) hb hB hf hk
    · rw [wipeX_o (by omega), up_eq] at e
      exact absurd e (neg_i3 (by omega))
    · show up (up (eraseT E (C 0 1) k) 14 11 0) 14 3 (eraseT E (C 0 1) k 14 3 + 1) 24 0 = E 24 0
      rw [up_ne (by omega), up_ne (by omega), eraseT_lo (by omega) (by omega)]
  | m + 1, i, n + 1, E, X, hi, hn, hc, hR, hM => by
    have h61 := hB.2.1
    have h6 := hB.1
    have h36 := tot36 hB
    have hT : tot C = C 0 0 * C 0 1 := rfl
    have hBk := blk (nw := C 0 1) hk
    have hl := lvN_lt (fun j => liveB D (k * C 0 1 + j)) (C 0 1)
    have hp := pow6 (n := C 0 1) (by omega)
    have hbit := lvN_bit (fun j => liveB D (k * C 0 1 + j)) (i := C 0 1) (j := i) (by omega)
    have e13 : E 13 (k * C 0 1 + i) = bz (liveB D (k * C 0 1 + i)) := by rw [hc.2.2.2.1, hSv _ (by omega)]
    generalize hgo : lvN (fun j => liveB D (k * C 0 1 + j)) (C 0 1) = o' at hl hbit ⊢
    have q1 := bit6_dec ⟨o', by omega⟩ ⟨i, by omega⟩
    simp only at q1
    rw [hbit] at q1
    unfold L_X12_collects_68 colR
    rw [t_wide h hM, Option.bind_some, if_neg (by rw [i3_le (by omega) (by omega)]; omega), q1, e13]
    cases hlv : liveB D (k * C 0 1 + i) with
    | false =>
      rw [if_neg (show ¬ (false = true) from by decide), if_pos (by decide), if_pos (show bz false = 0 from rfl), i3_add1]
      have ih := t_colLoop h hb hB hf hk hSv nt m (i + 1) n E X (by omega) (by omega) (CI_skip hlv hc) hR hM
      rw [hgo] at ih
      exact ih
    | true =>
      rw [if_pos (show true = true from rfl), if_neg (by decide), if_neg (show ¬ bz true = 0 from by decide), t_hand h hM hb hB hf hk (by omega)]
      have y95 : ∀ k', handX X (b + 34 + 13 * (k * C 0 1 + i)) 13 95 k' = X 95 k' := fun k' => by unfold handX; rw [if_neg (by omega)]
      have y96 : ∀ n, n < 13 → handX X (b + 34 + 13 * (k * C 0 1 + i)) 13 96 n = X 95 (b + 34 + 13 * (k * C 0 1 + i) + n) := fun n hn => by unfold handX; rw [if_pos ⟨rfl, hn⟩]
      have yo : ∀ j k', j ≠ 96 → handX X (b + 34 + 13 * (k * C 0 1 + i)) 13 j k' = X j k' := fun j k' hj => by unfold handX; rw [if_neg (by omega)]
      have hRY : Rel C b E (handX X (b + 34 + 13 * (k * C 0 1 + i)) 13) := Rel_95 hR y95
      have hMY : MCfg C (handX X (b + 34 + 13 * (k * C 0 1 + i)) 13) := MCfg_90 hM (fun k' => yo 90 k' (by decide))
      generalize handX X (b + 34 + 13 * (k * C 0 1 + i)) 13 = Y at y95 y96 yo hRY hMY ⊢
      obtain ⟨hne, hst⟩ := CI_step hB hk (show i < C 0 1 by omega) hlv hc nt
      obtain ⟨X1, g1, g2, g3, g4, g5, g6, g7, g8⟩ := t_put (fu := fu) (M := M) h hMY hb hB hRY hc.1 hne hf nt
      have hF1 : Fm b X X1 := ⟨fun j k' h1 h2 h3 h4 h5 => by rw [g3.1 j k' h1 h2 h3 h4 h5, yo j k' h5], fun k' hk' => by rw [g3.2.1 k' hk', y95], fun b' hb' hne e => by rw [g4] at e; exact absurd e (neg_i3 (by omega))⟩
      have hPc1 : Pc nt b E (putT nt E (C 0 0) (C 0 1)).2 X X1 := by
        obtain ⟨c, a1, b1⟩ := g6
        exact ⟨c, by rw [a1, y95], b1⟩
      rw [g1, Option.bind_some]
      rcases hst with ⟨hc2, T, e, hIT⟩ | ⟨hc2, s, T, e, hCT⟩
      · obtain ⟨T', e', hRT⟩ := g7 hc2
        rw [e] at e' hPc1
        injection e' with _ e'
        subst e'
        rw [e, decide_eq_true hc2, if_neg (show ¬ ¬ (bz (! true) = 0) from fun q => q rfl)]
        exact ⟨X1, rfl, hRT, g2, hF1, g4, hPc1⟩
      · obtain ⟨s', T', e', hRT⟩ := g8 hc2
        rw [e] at e' hPc1
        injection e' with es eT
        injection es with es
        subst es; subst eT
        rw [e, decide_eq_false hc2, if_pos (show ¬ (bz (! false) = 0) from (by decide : ¬ bz (! false) = 0))]
        have hsl : ∀ j k', (j < 14 ∧ j ≠ 1) → T j k' = E j k' := by
          intro j k' hj
          have := (putT_slot (nt := nt) (s := s) hc.1.1 (by rw [e])).2.2 j k' (by omega)
          rw [e] at this
          exact this
        have hot : k * C 0 1 + i < tot C := by omega
        have hr := hRY.2.2.2.2.2.2.2.2.2 _ hot
        have hEn : E 2 (k * C 0 1 + i) ≠ 0 := by
          rw [hc.2.1 _ 2 ⟨by omega, by omega⟩ (by omega) (by omega)]; exact live_ne hlv
        have hR2 : Rel C b (copyT T (k * C 0 1 + i) s) X1 := by
          refine hRT _ (fun j k' hj => copyT_lo (by omega)) (fun j t ht h1 h2 => copyT_ne ht (by omega)) (fun j t n ht hn hj => copyT_en hj hn ht) ?_ (fun _ => ?_) (fun q n hn hl => ?_)
          · rw [copyT_at (by omega), hsl _ _ (by omega), y96 0 (by omega)]
            exact (hr.1.symm.trans (y95 _))
          · rw [copyT_at (by omega), copyT_at (by omega), copyT_at (by omega), copyT_at (by omega), hsl _ _ (by omega), hsl _ _ (by omega), hsl _ _ (by omega), hsl _ _ (by omega), y96 1 (by omega), y96 2 (by omega), y96 3 (by omega), y96 4 (by omega), ← y95, ← y95, ← y95, ← y95]
            have := hr.2.1 hEn
            exact ⟨this.1.symm, this.2.1.symm, this.2.2.1.symm, this.2.2.2.symm⟩
          · rw [copyT_at (by omega), hsl _ _ (by omega)] at q hl
            rw [copyT_e (Or.inl rfl) hn, copyT_e (Or.inr rfl) hn, hsl _ _ (by omega), hsl _ _ (by omega), y96 _ (by omega), y96 _ (by omega), ← y95, ← y95]
            have := hr.2.2 q n hn hl
            exact ⟨this.1.symm, this.2.symm⟩
        have ih := t_colLoop h hb hB hf hk hSv nt m (i + 1) n (copyT T (k * C 0 1 + i) s) X1 (by omega) (by omega) hCT hR2 g2
        rw [hgo] at ih
        obtain ⟨X2, k1, k2, k3, k4, k5, k6⟩ := ih
        refine ⟨X2, k1, k2, k3, Fm_tr hF1 k4, k5, Pc_tr (Pc_tr hPc1 (Pc_rf rfl ?_)) k6⟩
        exact copyT_lo (by omega)
end
