/-! ===== tallies ===== -/
def eraA (D : xT) (nw : Nat) : Nat → Nat
  | 0 => 0
  | k + 1 => eraA D nw k + eraN D nw k nw
def InB (C : xC) (D : xT) : Prop := D 15 3 = i3 (eraA D (C 0 1) (C 0 0)) ∧ ∀ k, k < C 0 0 → ∃ l, l ≤ C 0 1 ∧ D 1 k = i3 l ∧ (∀ i, i < C 0 1 → (D 2 (k * C 0 1 + i) = 0 ↔ C 0 1 - l ≤ i)) ∧ (D 15 4 = i3 k ∨ l = 0 ∨ l = C 0 1)
/-- all that holds between calls -/
def Inv (C : xC) (L : Nat) (D : xT) : Prop := Ok (C 0 0) (C 0 1) D ∧ InA L D ∧ InN C D ∧ InS C D ∧ InM C D ∧ InC C D ∧ InO D ∧ InB C D
def tlB (D : xT) (w s : Nat) : Bool := if w = 0 then decide (D 2 s = 0) else if w = 1 then liveB D s else ! decide (D 2 s = 0) && ! liveB D s
theorem live_ne {D : xT} {s : Nat} (h : liveB D s = true) : D 2 s ≠ 0 := by
  intro e
  unfold liveB isWholeT isJourT mapToT at h
  rw [e] at h
  simp at h
theorem cnt_suffix {p : Nat → Bool} {l : Nat} : ∀ {n : Nat}, (∀ i, i < n → (p i = true ↔ l ≤ i)) → cnt p n = n - l
  | 0, _ => by simp [cnt]
  | n + 1, h => by
    have ih := cnt_suffix (p := p) (l := l) (n := n) (fun i hi => h i (by omega))
    rw [cnt_s, ih]
    have := h n (by omega)
    by_cases c : l ≤ n
    · rw [if_pos (this.mpr c)]; omega
    · rw [if_neg (fun q => c (this.mp q))]; omega
theorem cnt_zero {p : Nat → Bool} : ∀ {n : Nat}, (∀ i, i < n → p i = false) → cnt p n = 0
  | 0, _ => rfl
  | n + 1, h => by rw [cnt_s, h n (by omega), cnt_zero (fun i hi => h i (by omega))]; rfl
theorem cnt_add {p : Nat → Bool} (a : Nat) : ∀ b, cnt p (a + b) = cnt p a + cnt (fun i => p (a + i)) b
  | 0 => rfl
  | b + 1 => by
    show cnt p (a + b + 1) = _
    rw [cnt_s, cnt_s, cnt_add a b]
    split <;> omega
/-- of one block of many -/
theorem cnt_block {p : Nat → Bool} {nw : Nat} (hw : 0 < nw) : ∀ {nb k : Nat}, k < nb → cnt (fun s => p s && decide (s / nw = k)) (nb * nw) = cnt (fun i => p (k * nw + i)) nw
  | 0, k, h => absurd h (Nat.not_lt_zero _)
  | nb + 1, k, h => by
    rw [Nat.succ_mul, cnt_add]
    have hd : ∀ i, i < nw → (nb * nw + i) / nw = nb := fun i hi => by
      rw [Nat.mul_comm, Nat.mul_add_div hw, Nat.div_eq_of_lt hi, Nat.add_zero]
    rcases Nat.lt_or_ge k nb with c | c
    · rw [cnt_block hw c]
      have : cnt (fun i => p (nb * nw + i) && decide ((nb * nw + i) / nw = k)) nw = 0 := cnt_zero (fun i hi => by
        rw [hd i hi, decide_eq_false (by omega), Bool.and_false])
      rw [this]; rfl
    · have e : k = nb := by omega
      subst e
      have h1 : cnt (fun s => p s && decide (s / nw = k)) (k * nw) = 0 := cnt_zero (fun s hs => by
        have : s / nw < k := (Nat.div_lt_iff_lt_mul hw).mpr hs
        rw [decide_eq_false (by omega), Bool.and_false])
      have h2 : cnt (fun i => p (k * nw + i) && decide ((k * nw + i) / nw = k)) nw = cnt (fun i => p (k * nw + i)) nw := cnt_congr (fun i hi => by
        rw [hd i hi, decide_eq_true rfl, Bool.and_true])
      rw [h1, h2, Nat.zero_add]
theorem tl_sum (D : xT) (f : Nat) : ∀ n, cnt (fun i => tlB D 0 (f + i)) n + cnt (fun i => tlB D 1 (f + i)) n + cnt (fun i => tlB D 2 (f + i)) n = n
  | 0 => rfl
  | n + 1 => by
    have ih := tl_sum D f n
    rw [cnt_s, cnt_s, cnt_s]
    unfold tlB at ih ⊢
    simp only [if_true, show ¬ (1 = 0) from by decide, show ¬ (2 = 0) from by decide, show ¬ (2 = 1) from by decide, if_false] at ih ⊢
    by_cases c : D 2 (f + n) = 0
    · have : liveB D (f + n) = false := by
        cases e : liveB D (f + n) with
        | false => rfl
        | true => exact absurd c (live_ne e)
      simp only [c, this, decide_true, if_true, Bool.false_eq_true, if_false, Bool.not_true, Bool.false_and]
      omega
    · cases e : liveB D (f + n) with
      | false => simp only [c, decide_false, Bool.false_eq_true, if_false, Bool.not_false, Bool.true_and, if_true]; omega
      | true => simp only [c, decide_false, Bool.false_eq_true, if_false, Bool.not_false, Bool.not_true, Bool.and_false, if_true]; omega
section
variable {M : xM} {D X : xT} {C : xC} {fu b L s o : Nat}
theorem era_l {l k : Nat} (hl : l ≤ C 0 1) (h : ∀ i, i < C 0 1 → (D 2 (k * C 0 1 + i) = 0 ↔ C 0 1 - l ≤ i)) : eraN D (C 0 1) k (C 0 1) = l := by
  unfold eraN
  rw [cnt_suffix (l := C 0 1 - l) (fun i hi => by rw [decide_eq_true_eq]; exact h i hi)]
  omega
theorem t_erased (h : Lay M) (hC : MCfg C X) (hb : b ≤ 2140) (hB : CB C) (hR : Rel C b D X) (hI : InB C D) (hf : 100 < fu) : F_X12_erased fu 0 (i3 b) (mmb X M) = some (D 15 3, mmb X M) := by
  have h1 := hB.1
  rw [hI.1]
  unfold F_X12_erased
  refine lpc (fun n i x => L_X12_erased_4 fu n 0 (i3 b) x (i3 i) (mmb X M)) (fun i => i3 (eraA D (C 0 1) i)) (C 0 0) _ ?_ ?_ fu 0 (by omega) (by omega)
  · intro n i hi
    show L_X12_erased_4 fu (n + 1) 0 (i3 b) (i3 (eraA D (C 0 1) i)) (i3 i) (mmb X M) = L_X12_erased_4 fu n 0 (i3 b) (i3 (eraA D (C 0 1) (i + 1))) (i3 (i + 1)) (mmb X M)
    conv => lhs; unfold L_X12_erased_4
    rw [t_blocks h hC, Option.bind_some, if_neg (by rw [i3_le (by omega) (by omega)]; omega), t_erasedIn h hC hb hB hR hf hi, Option.bind_some]
    simp only [i3_add, i3_add1]
    rfl
  · intro n
    show L_X12_erased_4 fu (n + 1) 0 (i3 b) (i3 (eraA D (C 0 1) (C 0 0))) (i3 (C 0 0)) (mmb X M) = _
    conv => lhs; unfold L_X12_erased_4
    rw [t_blocks h hC, Option.bind_some, if_pos (Int32.le_refl _)]
theorem Lk_lkX : Lk D (lkX X b (i3 (fsN D), i3 (wpN D))) := ⟨by unfold lkX; simp, by unfold lkX; simp⟩
theorem t_tally (h : Lay M) (hM : MCfg C X) (hb : b ≤ 2140) (hB : CB C) (hR : Rel C b D X) (hA : InA L D) (hN : InN C D) (hS : InS C D) (hC : InC C D) (hL : X 0 22 = i3 b → Lk D X) (hf : 100 < fu) {f m w : Nat} (hfm : f + m ≤ tot C) (hw : w < 3) :
    F_X12_tally fu 0 (i3 b) (i3 f) (i3 m) (i3 w) (mmb X M) = some (i3 (cnt (fun i => tlB D w (f + i)) m), mmb (lkX X b (i3 (fsN D), i3 (wpN D))) M) := by
  have h36 := tot36 hB
  unfold F_X12_tally
  rw [t_looks h hM hb hB hR hA hN hS hC hL hf, Option.bind_some]
  have hR2 : Rel C b D (lkX X b (i3 (fsN D), i3 (wpN D))) := Rel_95 hR (fun k => lkX_o (Or.inl (by decide)))
  have hL2 : Lk D (lkX X b (i3 (fsN D), i3 (wpN D))) := Lk_lkX
  generalize lkX X b (i3 (fsN D), i3 (wpN D)) = Y at hR2 hL2
  refine lpc (fun n i x => L_X12_tally_11 fu n 0 (i3 b) (i3 f) (i3 m) (i3 w) x (i3 (f + i)) (mmb Y M)) (fun i => i3 (cnt (fun i => tlB D w (f + i)) i)) m _ ?_ ?_ fu 0 (by omega) (by omega)
  · intro n i hi
    show L_X12_tally_11 fu (n + 1) 0 (i3 b) (i3 f) (i3 m) (i3 w) (i3 (cnt (fun i => tlB D w (f + i)) i)) (i3 (f + i)) (mmb Y M) = L_X12_tally_11 fu n 0 (i3 b) (i3 f) (i3 m) (i3 w) (i3 (cnt (fun i => tlB D w (f + i)) (i + 1))) (i3 (f + i + 1)) (mmb Y M)
    rw [cnt_s]
    conv => lhs; unfold L_X12_tally_11
    rw [i3_add, if_neg (by rw [i3_le (by omega) (by omega)]; omega), t_typeOf h hb hB hR2 (by omega), Option.bind_some]
    have q77 : ∀ k : Nat → Int32 → Int32 → Int32 → Int32 → Int32 → Int32 → xM → Option (Int32 × xM), ∀ t : Bool, ∀ c : Nat, J_X12_tally_77 fu k 0 (i3 b) (i3 f) (i3 m) (i3 w) (i3 c) (i3 (f + i)) (bz t) (mmb Y M) = k 0 (i3 b) (i3 f) (i3 m) (i3 w) (i3 (if t then c + 1 else c)) (i3 (f + i + 1)) (mmb Y M) := by
      intro k t c
      unfold J_X12_tally_77
      cases t with
      | false => rw [if_pos (by decide)]; simp [i3_add1]
      | true => rw [if_neg (by decide)]; simp [i3_add1]
    have q77f := fun k => q77 k false
    have q77t := fun k => q77 k true
    rw [show bz false = 0 from rfl] at q77f
    rw [show bz true = 1 from rfl] at q77t
    unfold tlB J_X12_tally_34 J_X12_tally_69
    by_cases k0 : D 2 (f + i) = 0
    · have hl : liveB D (f + i) = false := by
        cases e : liveB D (f + i) with
        | false => rfl
        | true => exact absurd k0 (live_ne e)
      rcases (show w = 0 ∨ w = 1 ∨ w = 2 by omega) with rfl | rfl | rfl
      · simp [k0, show ¬ ¬ (i3 0 = (0 : Int32)) from fun q => q rfl, q77t]
      · simp [k0, show ¬ (i3 1 = (0 : Int32)) from by decide, q77f, hl]
      · simp [k0, show ¬ (i3 2 = (0 : Int32)) from by decide, q77f, hl]
    · rw [t_isLive h hb hB hR2 hA hN hS hC hL2 hf (show f + i < tot C by omega)]
      rcases (show w = 0 ∨ w = 1 ∨ w = 2 by omega) with rfl | rfl | rfl
      · simp [k0, show ¬ ¬ (i3 0 = (0 : Int32)) from fun q => q rfl, q77f]
      · cases liveB D (f + i) <;> simp [k0, show ¬ (i3 1 = (0 : Int32)) from by decide, show (i3 1 = (1 : Int32)) = True from eq_true rfl, q77f, q77t, bz]
      · cases liveB D (f + i) <;> simp [k0, show ¬ (i3 2 = (0 : Int32)) from by decide, show ¬ (i3 2 = (1 : Int32)) from by decide, q77f, q77t, bz]
  · intro n
    show L_X12_tally_11 fu (n + 1) 0 (i3 b) (i3 f) (i3 m) (i3 w) (i3 (cnt (fun i => tlB D w (f + i)) m)) (i3 (f + m)) (mmb Y M) = _
    conv => lhs; unfold L_X12_tally_11
    rw [i3_add, if_pos (Int32.le_refl _)]
theorem t_journalOf (h : Lay M) (hM : MCfg C X) (hb : b ≤ 2140) (hB : CB C) (hR : Rel C b D X) (hA : InA L D) (hN : InN C D) (hS : InS C D) (hC : InC C D) (hL : X 0 22 = i3 b → Lk D X) (hf : 100 < fu) :
    F_X12_journalOf fu 0 (i3 b) (mmb X M) = some (i3 (cnt (jourB D) (tot C)), mmb (lkX X b (i3 (fsN D), i3 (wpN D))) M) := by
  have h36 := tot36 hB
  unfold F_X12_journalOf
  rw [t_looks h hM hb hB hR hA hN hS hC hL hf, Option.bind_some]
  have hR2 : Rel C b D (lkX X b (i3 (fsN D), i3 (wpN D))) := Rel_95 hR (fun k => lkX_o (Or.inl (by decide)))
  have hM2 : MCfg C (lkX X b (i3 (fsN D), i3 (wpN D))) := MCfg_90 hM (fun k => lkX_o (Or.inl (by decide)))
  have hL2 : Lk D (lkX X b (i3 (fsN D), i3 (wpN D))) := Lk_lkX
  generalize lkX X b (i3 (fsN D), i3 (wpN D)) = Y at hR2 hL2 hM2
  refine lpc (fun n i x => L_X12_journalOf_9 fu n 0 (i3 b) x (i3 i) (mmb Y M)) (fun i => i3 (cnt (jourB D) i)) (tot C) _ ?_ ?_ fu 0 (by omega) (by omega)
  · intro n i hi
    show L_X12_journalOf_9 fu (n + 1) 0 (i3 b) (i3 (cnt (jourB D) i)) (i3 i) (mmb Y M) = L_X12_journalOf_9 fu n 0 (i3 b) (i3 (cnt (jourB D) (i + 1))) (i3 (i + 1)) (mmb Y M)
    rw [cnt_s]
    conv => lhs; unfold L_X12_journalOf_9
    rw [t_all h hM2, Option.bind_some, if_neg (by rw [i3_le (by omega) (by omega)]; omega), t_isJournal h hb hB hR2 hA hN hL2 hf hi, Option.bind_some]
    cases jourB D i with
    | false => rw [if_pos (show (bz false, mmb Y M).fst = 0 from rfl)]; simp [i3_add1]
    | true => rw [if_neg (show ¬ (bz true, mmb Y M).fst = 0 from (by decide : ¬ bz true = 0))]; simp [i3_add1]
  · intro n
    show L_X12_journalOf_9 fu (n + 1) 0 (i3 b) (i3 (cnt (jourB D) (tot C))) (i3 (tot C)) (mmb Y M) = _
    conv => lhs; unfold L_X12_journalOf_9
    rw [t_all h hM2, Option.bind_some, if_pos (Int32.le_refl _)]
end
