/-! ===== writing keeps what holds ===== -/
/-- i nodes of a page put of those that a write needs -/
def WI (C : xC) (L : Nat) (E0 E : xT) (f p r i : Nat) : Prop :=
  Inv C (L + i) E ∧ E 15 3 = i3 (r - i) ∧ (∀ t, E 9 t = E0 9 t ∧ E 12 t = E0 12 t) ∧ ¬ E 14 1 = 0 ∧ (i = 0 → E = E0) ∧
    (0 < i → E 14 11 = 0 ∧ ∃ s, s < tot C ∧ E 2 s = 1 ∧ E 3 s = E 14 10 ∧ E 4 s = i3 f ∧ E 5 s = i3 p)
section
variable {M : xM} {D E X Y Z T P X' E' E0 E'' X'' : xT} {C : xC} {R N : Nat → Int32} {fu b d L L' s o t k n m i j p q f l w nb nw a at' r g : Nat} {x y z v u c : Int32} {nt : Bool}
theorem cnt_pt {p1 p2 : Nat → Bool} {a : Nat} : ∀ {n}, a < n → (∀ i, i < n → i ≠ a → p2 i = p1 i) → cnt p2 n + (if p1 a then 1 else 0) = cnt p1 n + (if p2 a then 1 else 0)
  | 0, h, _ => absurd h (Nat.not_lt_zero _)
  | n + 1, h, h1 => by
    rw [cnt_s, cnt_s]
    by_cases c : a = n
    · subst c
      have : cnt p2 a = cnt p1 a := cnt_congr (fun i hi => h1 i (by omega) (by omega))
      rw [this]
      cases p1 a <;> cases p2 a <;> simp <;> omega
    · have ih := cnt_pt (p1 := p1) (p2 := p2) (a := a) (n := n) (by omega) (fun i hi => h1 i (by omega))
      rw [h1 n (by omega) (fun e => c e.symm)]
      cases p1 n <;> simp <;> omega
theorem WI_step (hB : CB C) (hw : WI C L E0 E f p r i) (hL : L + 8 < 1000000) (hi : i < 2) (hr : i < r) (hr2 : r ≤ 36) (hf : f < C 0 3) (hp : p < C 2 f) (hv : u = i3 g) (hg : g ≤ 255) (nt : Bool) :
    ((putNewT nt E (C 0 0) (C 0 1) 1 (i3 f) (i3 p) u).1 = false ∧ Inv C (L + i + 1) (putNewT nt E (C 0 0) (C 0 1) 1 (i3 f) (i3 p) u).2 ∧ (putNewT nt E (C 0 0) (C 0 1) 1 (i3 f) (i3 p) u).2 14 11 = 0) ∨
    ((putNewT nt E (C 0 0) (C 0 1) 1 (i3 f) (i3 p) u).1 = true ∧ WI C L E0 (putNewT nt E (C 0 0) (C 0 1) 1 (i3 f) (i3 p) u).2 f p r (i + 1)) := by
  obtain ⟨hI, h1, h2, h3, h4, h5⟩ := hw
  have he : ¬ E 15 3 = 0 := by rw [h1]; exact fun q => by have := (i3_eq (a := r - i) (b := 0) (by omega) (by omega)).mp q; omega
  have hI2 := Inv_putNew (nt := nt) (f := f) (x := 1) (y := i3 p) (z := u) hB hI (by omega) he (Or.inl ⟨rfl, p, g, hf, hp, hg, rfl, hv⟩)
  rcases putNew_is (nt := nt) (x := 1) (y := i3 f) (z := i3 p) (v := u) hB hI (by omega) he with ⟨e1, e2, e3⟩ | ⟨e1, e2, s, hs, -, g1, g2, g3, g4⟩
  · exact Or.inl ⟨e1, hI2, e3⟩
  · refine Or.inr ⟨e1, hI2, ?_, fun t => ⟨?_, ?_⟩, ?_, fun q => absurd q (by omega), fun _ => ⟨g1, s, hs, (g4 0).1, ?_, (g4 0).2.2.1, (g4 0).2.2.2.1⟩⟩
    · rw [g2, h1, show (1 : Int32) = i3 1 from rfl, i3_sub (by omega), Nat.sub_sub]
    · rw [(g4 9).2.2.2.2.1 (by omega)]; exact (h2 t).1
    · rw [(g4 12).2.2.2.2.1 (by omega)]; exact (h2 t).2
    · rw [(g4 0).2.2.2.2.2.1]; exact h3
    · rw [(g4 0).2.1, g3]
def mapT (E : xT) (a : Nat) : xT := up (up E 9 a (E 14 10)) 14 11 0
theorem mapT_lo (h : (j ≠ 9 ∨ k ≠ a) ∧ (j ≠ 14 ∨ k ≠ 11)) : mapT E a j k = E j k := by
  unfold mapT
  rw [up_ne (by omega), up_ne (by omega)]
theorem mapT_9 : mapT E a 9 a = E 14 10 := by
  unfold mapT
  rw [up_ne (by omega), up_eq]
theorem WI_map (hB : CB C) (hw : WI C L E0 E f p r i) (hi : 0 < i) (hf : f < C 0 3) (hp : p < C 2 f) : Inv C (L + i) (mapT E (f * 4 + p)) := by
  obtain ⟨hI, h1, h2, h3, h4, h5⟩ := hw
  obtain ⟨h11, s, hs, k2, k3, k4, k5⟩ := h5 hi
  have hI' := hI
  obtain ⟨hO, hA, hN, hS, hM, hC, hOo, hIB⟩ := hI
  have c5 := hB.2.2.2.1
  have c4 := (hB.2.2.2.2.2 f hf).2.2
  refine Inv_but9 hI' (fun j k' h1 h2 h3 h4 h5 h6 h7 => mapT_lo (by omega)) (fun a ha => ?_) ?_
  · have hls : lsN (mapT E (f * 4 + p)) = lsN E := by unfold lsN; rw [mapT_lo (by omega)]
    have m2 : ∀ t, mapT E (f * 4 + p) 2 t = E 2 t := fun t => mapT_lo (by omega)
    have m3 : ∀ t, mapT E (f * 4 + p) 3 t = E 3 t := fun t => mapT_lo (by omega)
    have mp : ∀ t, pgT (mapT E (f * 4 + p)) t = pgT E t := fun t => by unfold pgT; rw [mapT_lo (by omega), mapT_lo (by omega)]
    rw [hls]
    by_cases c : a = f * 4 + p
    · rw [c, mapT_9]
      refine ⟨hA.1, Nat.le_refl _, fun t ht hk he => ?_⟩
      rw [m2] at hk
      rw [m3] at he
      rw [mp]
      obtain ⟨-, q4, q5, -⟩ := hS s t hs ht (Or.inl k2) (k3.trans he)
      unfold pgT
      rw [← q4, ← q5, k4, k5, xi_i3 (by omega), xi_i3 (by omega)]
    · have := hM a ha
      rw [mapT_lo (by omega)]
      refine ⟨this.1, this.2.1, fun t ht hk he => ?_⟩
      rw [m2] at hk
      rw [m3] at he
      rw [mp]
      exact this.2.2 t ht hk he
  · obtain ⟨o1, o2, o3⟩ := hOo
    exact ⟨by rw [mapT_lo (by omega)]; exact o1, by rw [mapT_lo (by omega)]; exact o2, fun g hg => by rw [mapT_lo (by omega), mapT_lo (by omega)]; exact o3 g hg⟩
theorem kept_map (ha : a < 20) (h12 : E 12 (a / 4) = 0) (hv : ¬ E 14 10 = 0) : keptN (mapT E a) = keptN E + (if E 9 a = 0 then 1 else 0) := by
  have key := cnt_pt (p1 := keptT E) (p2 := keptT (mapT E a)) (a := a) (n := 20) ha (fun i hi hne => by
    unfold keptT
    rw [mapT_lo (by omega), mapT_lo (by omega)])
  have e2 : keptT (mapT E a) a = true := by
    unfold keptT
    rw [mapT_9, mapT_lo (by omega), h12, decide_eq_true hv]; rfl
  have e1 : keptT E a = ! decide (E 9 a = 0) := by
    unfold keptT
    rw [h12]; simp
  rw [e1, e2] at key
  unfold keptN
  by_cases c : E 9 a = 0
  · rw [if_pos c]
    simp only [c, decide_true, Bool.not_true, Bool.false_eq_true, if_false, if_true] at key
    omega
  · rw [if_neg c]
    simp only [c, decide_false, Bool.not_false, if_true] at key
    omega
theorem comR_ans : ∀ (m i at' : Nat) (E : xT), (comR nt nb nw n m i at' E).1 = i3 n ∨ (comR nt nb nw n m i at' E).1 = -2
  | 0, i, at', E => Or.inl rfl
  | m + 1, i, at', E => by
    unfold comR
    generalize putT nt (up E 14 10 (E 14 10 + 1)) nb nw = P
    obtain ⟨o', T⟩ := P
    cases o' with
    | none => exact Or.inr rfl
    | some s => exact comR_ans m (i + 1) _ _
end
