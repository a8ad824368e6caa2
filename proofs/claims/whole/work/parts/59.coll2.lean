/-! ===== a collect, whole ===== -/
section
variable {M : xM} {D E X Y Z T X' : xT} {C : xC} {R N : Nat → Int32} {fu b d L s o t k n m i j p q f l w nb nw a : Nat} {x y z v u : Int32} {nt : Bool}
theorem least_ex (t : Nat) : ∃ t0, t0 ≤ t ∧ D 3 t0 = D 3 t ∧ isLeastT D t0 = true := by
  cases e : lst (fun o => decide (D 3 o = D 3 t)) t with
  | none => exact ⟨t, Nat.le_refl _, rfl, by unfold isLeastT; rw [e]⟩
  | some t0 =>
    obtain ⟨h1, h2, h3⟩ := lst_some.mp e
    have h2' : D 3 t0 = D 3 t := of_decide_eq_true h2
    refine ⟨t0, by omega, h2', ?_⟩
    have : lst (fun o => decide (D 3 o = D 3 t0)) t0 = none := lst_none.mpr (fun i hi => by
      have := h3 i hi
      rw [h2']; exact this)
    unfold isLeastT
    rw [this]
theorem CI_end (hB : CB C) (hk : k < C 0 0) (hA : InA L D) (hN : InN C D) (hS : InS C D) (hC : InC C D) (h : CI C L D E k (C 0 1)) :
    ∀ p, p < wpN E → ∃ s, s < tot C ∧ (s < k * C 0 1 ∨ k * C 0 1 + C 0 1 ≤ s) ∧ E 2 s = 3 ∧ sq E s = bsN E + 1 - wpN E + p ∧ E 4 s = i3 p ∧ E 5 s = i3 (wpN E) := by
  obtain ⟨hI, h2, h3, h4, h5, h6, h7, h8, h9⟩ := h
  intro p hp
  have hbs : bsN E = bsN D := by unfold bsN; rw [h5]
  have hwp : wpN E = wpN D := by unfold wpN; rw [h6]
  rw [hwp] at hp ⊢
  rw [hbs]
  obtain ⟨t, ht, t1, t2, t3, t4⟩ := hC.1 p hp
  have hnt : isN D t := Or.inr (Or.inr t1)
  obtain ⟨t0, g1, g2, g3⟩ := least_ex (D := D) t
  have ht0 : t0 < tot C := by omega
  have hn0 : isN D t0 := Classical.byContradiction fun q => seq_ne (hN t ht) (hN t0 ht0) hnt q g2
  have hSS := hS t t0 ht ht0 hnt g2.symm
  have k0 : D 2 t0 = 3 := by rw [← hSS.1]; exact t1
  have s0 : sq D t0 = bsN D + 1 - wpN D + p := by rw [← t2]; unfold sq; rw [g2]
  have hw0 : isWholeT D t0 = true := by
    rw [whole_iff hA hN hS hC ht0 k0]
    refine decide_eq_true ⟨?_, by rw [← hSS.2.2.1]; exact t4⟩
    obtain ⟨g, -, -, -⟩ := idx_node hN ht0 k0
    have hw : wpN D ≠ 0 := by omega
    rw [g, ← hSS.2.1, t3, i3_sub (by omega), s0]
    unfold fsN
    rw [if_neg hw]
    congr 1; omega
  have hlv : liveB D t0 = true := by unfold liveB; rw [hw0, g3]; simp
  have e4 : D 4 t0 = i3 p := by rw [← hSS.2.1]; exact t3
  have e5 : D 5 t0 = i3 (wpN D) := by rw [← hSS.2.2.1]; exact t4
  by_cases c : inBlk C k t0
  · have c' := c
    unfold inBlk at c'
    obtain ⟨t', q1, q2, q3⟩ := h8 (t0 - k * C 0 1) (by omega) (by rw [show k * C 0 1 + (t0 - k * C 0 1) = t0 by omega]; exact hlv)
    rw [show k * C 0 1 + (t0 - k * C 0 1) = t0 by omega] at q3
    unfold inBlk at q2
    exact ⟨t', q1, by omega, by rw [q3 2 (by omega) (by omega)]; exact k0, by unfold sq at s0 ⊢; rw [q3 3 (by omega) (by omega)]; exact s0, by rw [q3 4 (by omega) (by omega)]; exact e4, by rw [q3 5 (by omega) (by omega)]; exact e5⟩
  · have q3 := h7 t0 ht0 c (by rw [k0]; decide)
    unfold inBlk at c
    exact ⟨t0, ht0, by omega, by rw [q3 2 (by omega) (by omega)]; exact k0, by unfold sq at s0 ⊢; rw [q3 3 (by omega) (by omega)]; exact s0, by rw [q3 4 (by omega) (by omega)]; exact e4, by rw [q3 5 (by omega) (by omega)]; exact e5⟩
theorem Inv_colR (hB : CB C) (hk : k < C 0 0) (hA : InA L D) (hN : InN C D) (hS : InS C D) (hC : InC C D) (hSv : ∀ s, s < tot C → D 13 s = bz (liveB D s)) (nt : Bool) : ∀ (m i : Nat) (E : xT), i + m = C 0 1 → CI C L D E k i →
    Inv C L (colR nt (C 0 0) (C 0 1) k m i E).2 ∧ ((colR nt (C 0 0) (C 0 1) k m i E).1 = i3 k ∨ (colR nt (C 0 0) (C 0 1) k m i E).1 = -2)
  | 0, i, E, hi, h => by
    have : i = C 0 1 := by omega
    subst this
    unfold colR
    refine ⟨?_, Or.inl rfl⟩
    have hOk : Ok (C 0 0) (C 0 1) (up (up (eraseT E (C 0 1) k) 14 11 0) 14 3 (eraseT E (C 0 1) k 14 3 + 1)) := Ok_up (Ok_up (Ok_erase h.1.1) (by omega)) (by omega)
    exact Inv_wiped hB h.1 hk h.2.2.1 hOk wiped_erase (CI_end hB hk hA hN hS hC h)
  | m + 1, i, E, hi, h => by
    have hBk := blk (nw := C 0 1) hk
    have hT : tot C = C 0 0 * C 0 1 := rfl
    unfold colR
    rw [h.2.2.2.1, hSv _ (by omega)]
    cases hlv : liveB D (k * C 0 1 + i) with
    | false =>
      rw [if_pos (by decide)]
      exact Inv_colR hB hk hA hN hS hC hSv nt m (i + 1) E (by omega) (CI_skip hlv h)
    | true =>
      rw [if_neg (by decide)]
      rcases (CI_step hB hk (by omega) hlv h nt).2 with ⟨-, T, e, hT⟩ | ⟨-, s, T, e, hT⟩
      · rw [e]; exact ⟨hT, Or.inr rfl⟩
      · rw [e]
        exact Inv_colR hB hk hA hN hS hC hSv nt m (i + 1) _ (by omega) hT
theorem Inv_same (hI : Inv C L D) (h : ∀ j k', j ≠ 10 → j ≠ 13 → (j ≠ 14 ∨ k' ≠ 11 ∧ k' ≠ 14 ∧ k' ≠ 15) → j < 25 → E j k' = D j k') : Inv C L E := by
  obtain ⟨hO, hA, hN, hS, hM, hC, hOo, hIB⟩ := hI
  have e : ∀ j k', j ≠ 10 → j ≠ 13 → j ≠ 14 → j < 25 → E j k' = D j k' := fun j k' h1 h2 h3 h4 => h j k' h1 h2 (Or.inl h3) h4
  have hls : lsN E = lsN D := by unfold lsN; rw [h 14 10 (by omega) (by omega) (by omega) (by omega)]
  have hbs : bsN E = bsN D := by unfold bsN; rw [e 15 5 (by omega) (by omega) (by omega) (by omega)]
  have hwp : wpN E = wpN D := by unfold wpN; rw [e 15 6 (by omega) (by omega) (by omega) (by omega)]
  have hsq : ∀ t, sq E t = sq D t := fun t => by unfold sq; rw [e 3 t (by omega) (by omega) (by omega) (by omega)]
  have hpg : ∀ t, pgT E t = pgT D t := fun t => by unfold pgT; rw [e 4 t (by omega) (by omega) (by omega) (by omega), e 5 t (by omega) (by omega) (by omega) (by omega)]
  have e2 : ∀ t, E 2 t = D 2 t := fun t => e 2 t (by omega) (by omega) (by omega) (by omega)
  have e3 : ∀ t, E 3 t = D 3 t := fun t => e 3 t (by omega) (by omega) (by omega) (by omega)
  have e4 : ∀ t, E 4 t = D 4 t := fun t => e 4 t (by omega) (by omega) (by omega) (by omega)
  have e5 : ∀ t, E 5 t = D 5 t := fun t => e 5 t (by omega) (by omega) (by omega) (by omega)
  have e6 : ∀ t, E 6 t = D 6 t := fun t => e 6 t (by omega) (by omega) (by omega) (by omega)
  have e7 : ∀ t, E 7 t = D 7 t := fun t => e 7 t (by omega) (by omega) (by omega) (by omega)
  have e8 : ∀ t, E 8 t = D 8 t := fun t => e 8 t (by omega) (by omega) (by omega) (by omega)
  have e9 : ∀ t, E 9 t = D 9 t := fun t => e 9 t (by omega) (by omega) (by omega) (by omega)
  have hA2 : ∀ n, eraA E (C 0 1) n = eraA D (C 0 1) n := by
    intro n
    induction n with
    | zero => rfl
    | succ n ih => show eraA E (C 0 1) n + eraN E (C 0 1) n (C 0 1) = _ + _; rw [ih]; congr 1; unfold eraN; exact cnt_congr (fun i hi => by rw [e2])
  refine ⟨Ok_congr hO (fun j k' q => e j k' (by omega) (by omega) (by omega) (by omega)), ?_, fun t ht => node_congr (e2 t) (e3 t) (e4 t) (e5 t) (e6 t) (fun n _ => ⟨e7 _, e8 _⟩) (by rw [hls]; exact Nat.le_refl _) (hN t ht), ?_, ?_, ?_, ?_, ?_⟩
  · unfold InA at hA ⊢
    rw [hls, hbs, hwp, h 14 10 (by omega) (by omega) (by omega) (by omega), e 15 5 (by omega) (by omega) (by omega) (by omega), e 15 6 (by omega) (by omega) (by omega) (by omega)]
    exact hA
  · unfold InS isN at hS ⊢
    simp only [e2, e3, e4, e5, e6, e7, e8]
    exact hS
  · unfold InM at hM ⊢
    simp only [e2, e3, e9, hls, hpg]
    exact hM
  · unfold InC at hC ⊢
    simp only [e2, e3, e4, e5, e6, e7, e8, hbs, hwp, hsq, hpg]
    exact hC
  · unfold InO at hOo ⊢
    simp only [h 14 1 (by omega) (by omega) (by omega) (by omega), h 14 2 (by omega) (by omega) (by omega) (by omega), fun f => e 11 f (by omega) (by omega) (by omega) (by omega), fun f => e 12 f (by omega) (by omega) (by omega) (by omega)]
    exact hOo
  · unfold InB at hIB ⊢
    simp only [hA2, e2, e 15 3 (by omega) (by omega) (by omega) (by omega), e 15 4 (by omega) (by omega) (by omega) (by omega), fun k' => e 1 k' (by omega) (by omega) (by omega) (by omega)]
    exact hIB
theorem pickF_val : ∀ {n h : Nat}, n ≤ 6 → (pickF E n).1 = i3 h → h < n → (pickF E n).2 = if i3 h = E 15 4 then 0 else dirtyT E h
  | 0, h, _, e, hh => absurd hh (Nat.not_lt_zero _)
  | n + 1, h, hn, e, hh => by
    have e0 : pickF E (n + 1) = if (pickF E n).2 < (if i3 n = E 15 4 then 0 else dirtyT E n) ∨ (¬ (pickF E n).1 < 0 ∧ (if i3 n = E 15 4 then 0 else dirtyT E n) = (pickF E n).2 ∧ E 0 n < E 0 (xi (pickF E n).1)) then (i3 n, if i3 n = E 15 4 then 0 else dirtyT E n) else pickF E n := rfl
    rw [e0] at e ⊢
    by_cases c : (pickF E n).2 < (if i3 n = E 15 4 then 0 else dirtyT E n) ∨ (¬ (pickF E n).1 < 0 ∧ (if i3 n = E 15 4 then 0 else dirtyT E n) = (pickF E n).2 ∧ E 0 n < E 0 (xi (pickF E n).1))
    · rw [if_pos c] at e ⊢
      have : n = h := (i3_eq (by omega) (by omega)).mp e
      rw [this]
    · rw [if_neg c] at e ⊢
      rcases pickF_in E n with q | ⟨h', g1, g2⟩
      · rw [q] at e
        exact absurd e (fun r => (i3_nn (a := h) (by omega)).mp r.symm)
      · rw [g2] at e
        have : h' = h := (i3_eq (by omega) (by omega)).mp e
        subst this
        exact pickF_val (by omega) g2 g1
/-- the collect begins -/
theorem CI_begin (hB : CB C) (hI : Inv C L D) (hV : InV C D) (e : pickT D (C 0 0) (C 0 1) = (some k, E)) : E = surveyT D (C 0 0) (C 0 1) ∧ k < C 0 0 ∧ survOK C E ∧ CI C L E E k 0 := by
  have h6 := hB.1
  have c61 := hB.2.1
  have h36 := tot36 hB
  have hT : tot C = C 0 0 * C 0 1 := rfl
  unfold pickT at e
  by_cases c : D 14 1 = 0
  · rw [if_pos c] at e; injection e with e1 e2; cases e1
  rw [if_neg c] at e
  injection e with e1 e2
  have hIs : Inv C L (surveyT D (C 0 0) (C 0 1)) := Inv_same hI (fun j k' h1 h2 h3 h4 => surveyT_lo (by omega))
  have hk := pickB_lt h6 e1
  refine ⟨e2.symm, hk, e2 ▸ survT_ok hB hV, ?_⟩
  have hpos := pickF_pos (E := surveyT D (C 0 0) (C 0 1)) (C 0 0) h6
  unfold pickB at e1
  rcases hpos with ⟨p1, p2⟩ | ⟨h', g1, g2, g3⟩
  · rw [p1] at e1; simp [n1_lt] at e1
  · have eh : h' < 2147483648 := by omega
    simp only [g2, i3_nl eh, if_false, xi_i3 eh] at e1
    by_cases c2 : surveyT D (C 0 0) (C 0 1) 10 h' ≤ surveyT D (C 0 0) (C 0 1) 15 3 - surveyT D (C 0 0) (C 0 1) 1 h'
    · rw [if_pos c2] at e1
      injection e1 with e1
      subst e1
      have hv := pickF_val h6 g2 g1
      rw [hv] at g3
      obtain ⟨l, l1, l2, l3, l4⟩ := hI.2.2.2.2.2.2.2.2 h' hk
      have hds := di_sum (era_l l1 l3)
      have hhd : ¬ surveyT D (C 0 0) (C 0 1) 15 4 = i3 h' := by
        intro q
        rw [if_pos q.symm] at g3
        exact absurd g3 (by decide)
      rw [if_neg (fun q => hhd q.symm), dirty_eq hB hI.1 hV hI.2.2.2.2.2.2.2 hk] at g3
      have hd : 0 < diN D (C 0 1) h' := (i3_lt (a := 0) (by omega) (by omega)).mp g3
      rw [surv_10 hB hV hk, surveyT_lo (j := 15) (by omega), surveyT_lo (j := 1) (by omega), l2, hI.2.2.2.2.2.2.2.1] at c2
      have hle := eraA_le (D := D) (nw := C 0 1) (C 0 0)
      have hll : l ≤ eraA D (C 0 1) (C 0 0) := by
        have key : ∀ n, h' < n → eraN D (C 0 1) h' (C 0 1) ≤ eraA D (C 0 1) n := by
          intro n
          induction n with
          | zero => intro hn; omega
          | succ n ih =>
            intro hn
            show _ ≤ eraA D (C 0 1) n + eraN D (C 0 1) n (C 0 1)
            rcases Nat.lt_or_ge h' n with q | q
            · have := ih q; omega
            · have : h' = n := by omega
              rw [this]; omega
        have := key _ hk
        rw [era_l l1 l3] at this
        exact this
      rw [i3_sub hll, i3_le (by omega) (by omega)] at c2
      have hliv : liveB E = liveB D := by rw [← e2]; exact live_surv
      subst e2
      refine ⟨hIs, fun t j _ _ _ => rfl, hhd, fun t => rfl, rfl, rfl, fun t _ _ _ j _ _ => rfl, fun j hj => absurd hj (Nat.not_lt_zero _), l, eraA D (C 0 1) (C 0 0), by omega, by rw [surveyT_lo (by omega)]; exact l2, by rw [surveyT_lo (by omega)]; exact hI.2.2.2.2.2.2.2.1, ?_, by omega⟩
      rw [hliv]
      have e7 : cnt (fun j => liveB D (h' * C 0 1 + j)) (C 0 1) = liN D (C 0 1) h' := rfl
      rw [e7]
      show l + (liN D (C 0 1) h' - 0) ≤ _
      omega
    · rw [if_neg c2] at e1; cases e1
theorem Inv_collect (hB : CB C) (hI : Inv C L D) (hV : InV C D) (nt : Bool) : Inv C L (collectT nt D (C 0 0) (C 0 1)).2 := by
  unfold collectT
  have hp := fun k E (e : pickT D (C 0 0) (C 0 1) = (some k, E)) => CI_begin hB hI hV e
  have hn : (pickT D (C 0 0) (C 0 1)).1 = none → Inv C L (pickT D (C 0 0) (C 0 1)).2 := by
    intro _
    unfold pickT
    by_cases c : D 14 1 = 0
    · rw [if_pos c]; exact hI
    · rw [if_neg c]; exact Inv_same hI (fun j k' h1 h2 h3 h4 => surveyT_lo (by omega))
  generalize pickT D (C 0 0) (C 0 1) = P at hp hn ⊢
  obtain ⟨o', E⟩ := P
  cases o' with
  | none => exact hn rfl
  | some k =>
    obtain ⟨-, hk, hsv, hci⟩ := hp k E rfl
    exact (Inv_colR hB hk hci.1.2.1 hci.1.2.2.1 hci.1.2.2.2.1 hci.1.2.2.2.2.2.1 hsv.2.2.1 nt (C 0 1) 0 E (by omega) hci).1
end
