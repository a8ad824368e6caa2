/-! ===== a mount, in the reference: its means ===== -/
/-- the disk along a mount: what is mapped, the last number, the head -/
def mnT (D : xT) (G : Nat → Int32) (x y : Int32) : xT := fun j k =>
  if j = 9 ∧ k < 20 then G k else if (j = 11 ∨ j = 12) ∧ k < 5 then 0 else if j = 14 ∧ k = 1 then 1 else if j = 14 ∧ k = 2 then 0 else if j = 14 ∧ k = 10 then x else if j = 15 ∧ k = 4 then y else D j k
section
variable {M : xM} {D E X Y Z T P X' E' E0 E'' X'' : xT} {C : xC} {R N G G' : Nat → Int32} {fu b d L L' s o t k n m i j p q f l w nb nw a at' r g c : Nat} {x y z v u : Int32} {nt : Bool}
theorem dec_i3 : i3 (r + 1) + (-1) = i3 r := (i3_addn (by omega)).trans (by rw [Nat.add_sub_cancel])
theorem t_slotLoop (h : Lay M) (hb : b ≤ 2140) (hB : CB C) (hR : Rel C b D X) (hz : z ≠ 0) : ∀ r n y, r ≤ tot C → r < n →
    L_X12_slotOf_11 fu n 0 (i3 b) z x y (i3 r + (-1)) (mmb X M) = some ((match lst (fun s => decide (D 2 s = z) && decide (D 3 s = x)) r with | some s => i3 s | none => y), mmb X M)
  | 0, n, y, hr, hn => by
    obtain ⟨n, rfl⟩ : ∃ k, n = k + 1 := ⟨n - 1, by omega⟩
    unfold L_X12_slotOf_11
    rw [if_pos (by decide)]
    rfl
  | r + 1, n, y, hr, hn => by
    have h36 := tot36 hB
    obtain ⟨n, rfl⟩ : ∃ k, n = k + 1 := ⟨n - 1, by omega⟩
    have ih := fun y => t_slotLoop h hb hB hR hz r n y (by omega) (by omega)
    unfold L_X12_slotOf_11
    rw [dec_i3, if_neg (fun q => (i3_nl (a := r) (by omega)).mp q), t_typeOf h hb hB hR (by omega)]
    simp only [Option.bind_some]
    unfold lst
    by_cases c1 : D 2 r = z
    · rw [if_neg (fun q => q c1), t_numberOf h hb hB hR (by omega) (by rw [c1]; exact hz)]
      simp only [Option.bind_some]
      by_cases c2 : D 3 r = x
      · rw [if_neg (fun q => q c2), ih]
        have e : (decide (D 2 r = z) && decide (D 3 r = x)) = true := by rw [decide_eq_true c1, decide_eq_true c2]; rfl
        cases lst (fun s => decide (D 2 s = z) && decide (D 3 s = x)) r with
        | some s => rfl
        | none => simp only [e, if_true]
      · rw [if_pos c2, ih]
        have e : (decide (D 2 r = z) && decide (D 3 r = x)) = false := by rw [decide_eq_false c2, Bool.and_false]
        cases lst (fun s => decide (D 2 s = z) && decide (D 3 s = x)) r with
        | some s => rfl
        | none => simp only [e, Bool.false_eq_true, if_false]
    · rw [if_pos c1, ih]
      have e : (decide (D 2 r = z) && decide (D 3 r = x)) = false := by rw [decide_eq_false c1, Bool.false_and]
      cases lst (fun s => decide (D 2 s = z) && decide (D 3 s = x)) r with
      | some s => rfl
      | none => simp only [e, Bool.false_eq_true, if_false]
theorem t_slotOf (h : Lay M) (hM : MCfg C X) (hb : b ≤ 2140) (hB : CB C) (hR : Rel C b D X) (hz : z ≠ 0) (hf : 100 < fu) : F_X12_slotOf fu 0 (i3 b) z x (mmb X M) = some (on (lst (fun s => decide (D 2 s = z) && decide (D 3 s = x)) (tot C)), mmb X M) := by
  have h36 := tot36 hB
  unfold F_X12_slotOf
  rw [t_all h hM]
  simp only [Option.bind_some]
  have := t_slotLoop (fu := fu) (M := M) (x := x) h hb hB hR hz (tot C) fu (-1) (Nat.le_refl _) (by omega)
  rw [show (i3 (tot C) : Int32) - 1 = i3 (tot C) + (-1) from Int32.sub_eq_add_neg _ _, this]
  cases lst (fun s => decide (D 2 s = z) && decide (D 3 s = x)) (tot C) <;> rfl
theorem Rel_gen (hR : Rel C b D X) (h0 : X' 95 b = E 14 10) (h1 : X' 95 (b + 1) = E 15 4) (h2 : X' 95 (b + 2) = E 14 1) (h3 : X' 95 (b + 3) = E 14 2) (h4 : bitsAs (X' 95 (b + 4)) (E 11)) (h5 : bitsAs (X' 95 (b + 5)) (E 12)) (h7 : X' 95 (b + 7) = E 14 3)
    (h8 : ∀ k, k < 6 → X' 95 (b + 8 + k) = E 0 k) (h9 : ∀ k, k < 20 → X' 95 (b + 14 + k) = E 9 k) (hn : ∀ j k, 2 ≤ j → j ≤ 8 → E j k = D j k) (hx : ∀ k, b + 34 ≤ k → X' 95 k = X 95 k) : Rel C b E X' := by
  obtain ⟨g0, g1, g2, g3, g4, g5, g6, g7, g8, g9⟩ := hR
  refine ⟨h0, h1, h2, h3, h4, h5, h7, h8, h9, fun s hs => ?_⟩
  rw [hn 2 s (by omega) (by omega), hn 3 s (by omega) (by omega), hn 4 s (by omega) (by omega), hn 5 s (by omega) (by omega), hn 6 s (by omega) (by omega), hx _ (by omega), hx _ (by omega), hx _ (by omega), hx _ (by omega), hx _ (by omega)]
  refine ⟨(g9 s hs).1, (g9 s hs).2.1, fun q n hn' hl => ?_⟩
  rw [hn 7 _ (by omega) (by omega), hn 8 _ (by omega) (by omega), hx _ (by omega), hx _ (by omega)]
  exact (g9 s hs).2.2 q n hn' hl
theorem mn_n (h : j ≤ 8) : mnT D G x y j k = D j k := by
  unfold mnT
  rw [if_neg (by omega), if_neg (by omega), if_neg (by omega), if_neg (by omega), if_neg (by omega), if_neg (by omega)]
theorem mn_9 (h : k < 20) : mnT D G x y 9 k = G k := by unfold mnT; rw [if_pos ⟨rfl, h⟩]
theorem mn_15 (h : k ≠ 4) : mnT D G x y 15 k = D 15 k := by
  unfold mnT
  rw [if_neg (by omega), if_neg (by omega), if_neg (by omega), if_neg (by omega), if_neg (by omega), if_neg (by omega)]
theorem mn_144 : mnT D G x y 15 4 = y := by
  unfold mnT
  rw [if_neg (by omega), if_neg (by omega), if_neg (by omega), if_neg (by omega), if_neg (by omega), if_pos ⟨rfl, rfl⟩]
theorem mn_1410 : mnT D G x y 14 10 = x := by
  unfold mnT
  rw [if_neg (by omega), if_neg (by omega), if_neg (by omega), if_neg (by omega), if_pos ⟨rfl, rfl⟩]
theorem mn_cg (h : ∀ k, k < 20 → G k = G' k) : mnT D G x y = mnT D G' x y := by
  funext j k
  unfold mnT
  by_cases c : j = 9 ∧ k < 20
  · rw [if_pos c, if_pos c, h k c.2]
  · rw [if_neg c, if_neg c]
theorem Rel_mn (hR : Rel C b (mnT D G x y) X) (hx : ∀ k, (k < b + 14 ∧ b + 2 ≤ k ∨ b + 34 ≤ k) → X' 95 k = X 95 k) (h0 : X' 95 b = z) (h1 : X' 95 (b + 1) = v) (h9 : ∀ k, k < 20 → X' 95 (b + 14 + k) = G' k) : Rel C b (mnT D G' z v) X' := by
  have hR' := hR
  obtain ⟨g0, g1, g2, g3, g4, g5, g6, g7, g8, g9⟩ := hR
  have e : ∀ j k, j ≠ 9 → (j ≠ 14 ∨ k ≠ 10) → (j ≠ 15 ∨ k ≠ 4) → mnT D G' z v j k = mnT D G x y j k := by
    intro j k e1 e2 e3
    unfold mnT
    rw [if_neg (by omega), if_neg (show ¬ (j = 9 ∧ k < 20) by omega)]
    by_cases c1 : (j = 11 ∨ j = 12) ∧ k < 5
    · rw [if_pos c1, if_pos c1]
    · rw [if_neg c1, if_neg c1]
      by_cases c2 : j = 14 ∧ k = 1
      · rw [if_pos c2, if_pos c2]
      · rw [if_neg c2, if_neg c2]
        by_cases c3 : j = 14 ∧ k = 2
        · rw [if_pos c3, if_pos c3]
        · rw [if_neg c3, if_neg c3, if_neg (by omega), if_neg (by omega), if_neg (by omega), if_neg (by omega)]
  have f11 : mnT D G' z v 11 = mnT D G x y 11 := funext fun k => e 11 k (by omega) (by omega) (by omega)
  have f12 : mnT D G' z v 12 = mnT D G x y 12 := funext fun k => e 12 k (by omega) (by omega) (by omega)
  refine Rel_gen hR' (h0.trans mn_1410.symm) (h1.trans mn_144.symm) ?_ ?_ ?_ ?_ ?_ (fun k hk => ?_) (fun k hk => (h9 k hk).trans (mn_9 hk).symm) (fun j k j1 j2 => e j k (by omega) (by omega) (by omega)) (fun k hk => hx k (by omega))
  · rw [hx _ (by omega), e _ _ (by omega) (by omega) (by omega)]; exact g2
  · rw [hx _ (by omega), e _ _ (by omega) (by omega) (by omega)]; exact g3
  · rw [hx _ (by omega), f11]; exact g4
  · rw [hx _ (by omega), f12]; exact g5
  · rw [hx _ (by omega), e _ _ (by omega) (by omega) (by omega)]; exact g6
  · rw [hx _ (by omega), e _ _ (by omega) (by omega) (by omega)]; exact g7 k hk
end
