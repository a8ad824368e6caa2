/-! ===== puts with and without notes; collects of the reference ===== -/
/-- how many puts: of the reference's count, and of the notes' -/
def Pc (nt : Bool) (b : Nat) (E E' X X' : xT) : Prop := ∃ c, X' 95 (b + 6) = X 95 (b + 6) + i3 c ∧ (nt = true → ∀ P, E 24 0 = i3 P → P ≤ 288 → E' 24 0 = i3 (min 288 (P + c)))
section
variable {M : xM} {D E X Y Z T X' E' E'' X'' : xT} {C : xC} {R N : Nat → Int32} {fu b d L s o t k n m i j p q f l w nb nw a : Nat} {x y z v u : Int32} {nt : Bool}
theorem Pc_rf (h : X' 95 (b + 6) = X 95 (b + 6)) (h2 : E' 24 0 = E 24 0) : Pc nt b E E' X X' := ⟨0, by rw [h]; exact (Int32.add_zero _).symm, fun _ P hP hl => by rw [h2, hP]; congr 1; omega⟩
theorem Pc_tr (h1 : Pc nt b E E' X X') (h2 : Pc nt b E' E'' X' X'') : Pc nt b E E'' X X'' := by
  obtain ⟨c1, a1, b1⟩ := h1
  obtain ⟨c2, a2, b2⟩ := h2
  refine ⟨c1 + c2, by rw [a2, a1, Int32.add_assoc, i3_add], fun hn P hP hl => ?_⟩
  have := b2 hn (min 288 (P + c1)) (b1 hn P hP hl) (by omega)
  rw [this]
  congr 1; omega
theorem Rel_lo (hR : Rel C b D X) (h : ∀ j k, j < 16 → E j k = D j k) : Rel C b E X := by
  unfold Rel at hR ⊢
  have e11 : E 11 = D 11 := funext fun k => h 11 k (by omega)
  have e12 : E 12 = D 12 := funext fun k => h 12 k (by omega)
  rw [e11, e12, h 14 10 (by omega), h 15 4 (by omega), h 14 1 (by omega), h 14 2 (by omega), h 14 3 (by omega)]
  simp only [fun k => h 0 k (by omega), fun k => h 9 k (by omega), fun k => h 2 k (by omega), fun k => h 3 k (by omega), fun k => h 4 k (by omega), fun k => h 5 k (by omega), fun k => h 6 k (by omega), fun k => h 7 k (by omega), fun k => h 8 k (by omega)]
  exact hR
theorem putA_agr (hj : j < 16) : putA nt D nb nw j k = putA false D nb nw j k := by
  by_cases c : j = 14 ∧ k = 11
  · rw [c.1, c.2, putA_11, putA_11]
  · rw [putA_lo (by omega), putA_lo (by omega)]
theorem forget_agr (h : ∀ j k, j < 16 → E j k = D j k) (hj : j < 16) : forgetT E j k = forgetT D j k := by unfold forgetT; rw [h j k hj]
theorem putT_agr : (putT nt D nb nw).1 = (putT false D nb nw).1 ∧ ∀ j k, j < 16 → (putT nt D nb nw).2 j k = (putT false D nb nw).2 j k := by
  unfold putT
  generalize takeT D nb nw = t
  obtain ⟨o', D1⟩ := t
  cases o' with
  | none => exact ⟨rfl, fun _ _ _ => rfl⟩
  | some s =>
    simp only
    have e : putA nt D1 nb nw 14 2 = putA false D1 nb nw 14 2 := putA_agr (by omega)
    rw [e]
    by_cases c : putA false D1 nb nw 14 2 = 1
    · rw [if_pos c, if_pos c]
      refine ⟨rfl, fun j k hj => ?_⟩
      show tornT (putA nt D1 nb nw) s j k = tornT (putA false D1 nb nw) s j k
      unfold tornT
      refine forget_agr (fun j k hj => ?_) hj
      unfold fillT
      simp only [up_at]
      rw [putA_agr hj]
    · rw [if_neg c, if_neg c]
      refine ⟨rfl, fun j k hj => ?_⟩
      simp only
      by_cases c2 : putA false D1 nb nw 14 2 ≤ 1
      · rw [if_pos c2, if_pos c2]; exact putA_agr hj
      · rw [if_neg c2, if_neg c2]
        simp only [up_at]
        rw [putA_agr hj]
theorem note_24 (hP : D 24 0 = i3 p) (hp : p < 288) : noteT D 24 0 = i3 (p + 1) := by
  have e : ∀ Y m, Y 24 0 = i3 p → noteAt Y m 24 0 = i3 (p + 1) := by
    intro Y m hY
    unfold noteAt
    rw [up_eq, hY, i3_add1]
  have e0 : (288 : Int32) = i3 288 := rfl
  unfold noteT
  rw [hP, e0, if_pos ((i3_lt (by omega) (by omega)).mpr hp)]
  cases lastAl D (D 17) (xi (D 24 1)) with
  | some m => exact e _ _ hP
  | none =>
    refine e _ _ ?_
    unfold noteNew cpT
    rw [up_ne (by omega), up_ne (by omega), if_neg (by omega)]
    exact hP
theorem note_24m (hP : D 24 0 = i3 p) (hp : p ≤ 288) : noteT D 24 0 = i3 (min 288 (p + 1)) := by
  by_cases c : p < 288
  · rw [note_24 hP c]; congr 1; omega
  · have e0 : (288 : Int32) = i3 288 := rfl
    unfold noteT
    rw [hP, e0, if_neg (fun q => c ((i3_lt (by omega) (by omega)).mp q)), hP]
    congr 1; omega
theorem put_24 (hO : Ok nb nw D) (hne : takeT D nb nw = (some s, T)) (hP : D 24 0 = i3 p) (hp : p ≤ 288) : (putT true D nb nw).2 24 0 = i3 (min 288 (p + 1)) := by
  have hS := takeT_spec hO
  have e24 : T 24 0 = i3 p := by
    have := hS.2.1 24 0 (by omega)
    rw [hne] at this
    rw [← hP]; exact this
  have eA : putA true T nb nw 24 0 = i3 (min 288 (p + 1)) := by
    unfold putA
    simp only [if_true]
    refine note_24m ?_ hp
    rw [findT_lo (by omega), up_ne (by omega)]; exact e24
  unfold putT
  rw [hne]
  simp only
  by_cases c : putA true T nb nw 14 2 = 1
  · rw [if_pos c]
    show tornT (putA true T nb nw) s 24 0 = _
    unfold tornT
    rw [forgetT_lo (by omega), up_ne (by omega), up_ne (by omega), fillT_lo (by omega)]
    exact eA
  · rw [if_neg c]
    simp only
    by_cases c2 : putA true T nb nw 14 2 ≤ 1
    · rw [if_pos c2]; exact eA
    · rw [if_neg c2, up_ne (by omega)]; exact eA
/-- a put, with notes or without: torn, or else what stands there is what the row holds -/
theorem t_put (h : Lay M) (hM : MCfg C X) (hb : b ≤ 2140) (hB : CB C) (hR : Rel C b D X) (hI : Inv C L D) (he : ¬ D 15 3 = 0) (hf : 100 < fu) (nt : Bool) :
    ∃ X', F_X12_puts fu 0 (i3 b) (mmb X M) = some (bz (! decide (D 14 2 = 1)), mmb X' M) ∧ MCfg C X' ∧ Fm b X X' ∧ X' 0 22 = -1 ∧ (∀ k, X' 96 k = X 96 k) ∧ Pc nt b D (putT nt D (C 0 0) (C 0 1)).2 X X' ∧
      (D 14 2 = 1 → ∃ T, putT nt D (C 0 0) (C 0 1) = (none, T) ∧ Rel C b T X') ∧
      (¬ D 14 2 = 1 → ∃ s T, putT nt D (C 0 0) (C 0 1) = (some s, T) ∧ ∀ D2 : xT, (∀ j k, j < 2 ∨ 9 ≤ j → D2 j k = T j k) → (∀ j t, t ≠ s → 2 ≤ j → j ≤ 6 → D2 j t = T j t) →
        (∀ j t n, t ≠ s → n < 4 → (j = 7 ∨ j = 8) → D2 j (t * 4 + n) = T j (t * 4 + n)) → D2 2 s = X 96 0 → (D2 2 s ≠ 0 → D2 3 s = X 96 1 ∧ D2 4 s = X 96 2 ∧ D2 5 s = X 96 3 ∧ D2 6 s = X 96 4) →
        (D2 2 s = 3 → ∀ n, n < 4 → i3 n < D2 6 s → D2 7 (s * 4 + n) = X 96 (5 + 2 * n) ∧ D2 8 (s * 4 + n) = X 96 (6 + 2 * n)) → Rel C b D2 X') := by
  have hI' := hI
  obtain ⟨hO, hA, hN, hS, hMp, hC, hOo, hIB⟩ := hI
  obtain ⟨X', g1, g2, g3⟩ := t_puts (fu := fu) (M := M) h hM hb hB hR hO hIB hOo.2.1 he hf
  have hFm := Fm_sim hb g2
  obtain ⟨q1, q2, q3, q4, q5, q6⟩ := g2
  have hag := @putT_agr D (C 0 0) (C 0 1) nt
  obtain ⟨ks, ls, sp1, sp2, sp3⟩ := take_spot hB hO hIB he
  refine ⟨X', g1, MCfg_90 hM (fun k' => hFm.1 90 k' (by omega) (by decide) (by decide) (by decide) (by decide)), hFm, q1, fun k => q2 96 k (by decide) (by omega), ?_, fun hc => ?_, fun hc => ?_⟩
  · refine ⟨1, q4, fun hn P hP hl => ?_⟩
    subst hn
    exact put_24 hO sp2 hP (by omega)
  · have e1 := g3.mp hc
    have e2 := hag.1.trans e1
    have hag2 := hag.2
    refine ⟨(putT nt D (C 0 0) (C 0 1)).2, Prod.ext e2 rfl, ?_⟩
    exact Rel_lo (q5 (putT false D (C 0 0) (C 0 1)).2 (Prod.ext e1 rfl)) hag2
  · have e1 : (putT false D (C 0 0) (C 0 1)).1 ≠ none := fun q => hc (g3.mpr q)
    cases e0 : (putT false D (C 0 0) (C 0 1)).1 with
    | none => exact absurd e0 e1
    | some s =>
      refine ⟨s, (putT nt D (C 0 0) (C 0 1)).2, Prod.ext (hag.1.trans e0) rfl, fun D2 r1 r2 r3 r4 r5 r6 => ?_⟩
      -- the same off the notes
      have := q6 s (putT false D (C 0 0) (C 0 1)).2 (Prod.ext e0 rfl) (fun j k => if j < 16 then D2 j k else (putT false D (C 0 0) (C 0 1)).2 j k)
        (fun j k hj => by
          by_cases c : j < 16
          · simp only [if_pos c]; rw [r1 j k hj, hag.2 j k c]
          · simp only [if_neg c])
        (fun j t ht h1 h2 => by simp only [if_pos (show j < 16 by omega)]; rw [r2 j t ht h1 h2, hag.2 j t (by omega)])
        (fun j t n ht hn hj => by simp only [if_pos (show j < 16 by omega)]; rw [r3 j t n ht hn hj, hag.2 j _ (by omega)])
        r4 r5 r6
      exact Rel_lo this (fun j k hj => by simp only [if_pos hj])
end
