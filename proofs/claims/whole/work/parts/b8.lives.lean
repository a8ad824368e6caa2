/-! ===== live nodes by their numbers: both sides ===== -/
/-- how many live nodes have a lesser number -/
def rkN (C : xC) (D : xT) (s : Nat) : Nat := cnt (fun o => liveB D o && decide (sq D o < sq D s)) (tot C)
/-- the slot of the i-th least -/
def slL (C : xC) (D : xT) (i : Nat) : Option Nat := lst (fun s => liveB D s && decide (rkN C D s = i)) (tot C)
/-- the live slot of the least number above n, of the first k -/
def nxF (D : xT) (n : Nat) : Nat → Option Nat
  | 0 => none
  | k + 1 => if liveB D k && (decide (n < sq D k) && (match nxF D n k with | none => true | some b => decide (sq D k < sq D b))) then some k else nxF D n k
section
variable {M M' : xM} {D E X X' : xT} {C : xC} {R Bv S : Nat → Int32} {d e fu n m i j o p q a k l s t w K P L L' b B B' f : Nat} {v x y r : Int32} {W A c : Nat → Nat} {V : Nat → Nat → Int32}
theorem live_isN (h : liveB D s = true) : isN D s := by
  unfold liveB isWholeT mapToT at h
  simp only [Bool.and_eq_true, Bool.or_eq_true, decide_eq_true_eq] at h
  rcases h.1 with (q | q) | q
  · exact Or.inr (Or.inr q.1)
  · exact Or.inr (Or.inl q.2)
  · exact Or.inl q.1
theorem live_least (h : liveB D s = true) (ho : o < s) : ¬ D 3 o = D 3 s := by
  unfold liveB at h
  rw [Bool.and_eq_true] at h
  have h2 := h.2
  unfold isLeastT at h2
  cases e : lst (fun o => decide (D 3 o = D 3 s)) s with
  | some i => rw [e] at h2; cases h2
  | none => simpa using lst_none.mp e o ho
theorem live_inj (hN : InN C D) (hs : s < tot C) (ht : t < tot C) (h1 : liveB D s = true) (h2 : liveB D t = true) (e : sq D s = sq D t) : s = t := by
  have q1 := (node_seq (hN s hs) (live_isN h1)).1
  have q2 := (node_seq (hN t ht) (live_isN h2)).1
  have e2 : D 3 s = D 3 t := by rw [q1, q2, e]
  rcases Nat.lt_trichotomy s t with w | w | w
  · exact absurd e2 (live_least h2 w)
  · exact w
  · exact absurd e2.symm (live_least h1 w)
theorem nx_spec : ∀ k, (∀ b, nxF D n k = some b → b < k ∧ liveB D b = true ∧ n < sq D b ∧ ∀ o, o < k → liveB D o = true → n < sq D o → sq D b ≤ sq D o) ∧ (nxF D n k = none → ∀ o, o < k → liveB D o = true → ¬ n < sq D o)
  | 0 => ⟨fun b h => (by cases h), fun _ o ho => absurd ho (Nat.not_lt_zero _)⟩
  | k + 1 => by
    obtain ⟨i1, i2⟩ := nx_spec k
    unfold nxF
    by_cases c : (liveB D k && (decide (n < sq D k) && (match nxF D n k with | none => true | some b => decide (sq D k < sq D b)))) = true
    · rw [if_pos c]
      simp only [Bool.and_eq_true, decide_eq_true_eq] at c
      refine ⟨fun b h => ?_, fun h => by cases h⟩
      injection h with h
      subst h
      refine ⟨by omega, c.1, c.2.1, fun o ho hl hn => ?_⟩
      rcases Nat.lt_or_ge o k with w | w
      · cases e : nxF D n k with
        | none => exact absurd hn (i2 e o w hl)
        | some b =>
          have c3 := c.2.2
          rw [e] at c3
          simp only [decide_eq_true_eq] at c3
          have := (i1 b e).2.2.2 o w hl hn
          omega
      · have : o = k := by omega
        rw [this]; exact Nat.le_refl _
    · rw [if_neg c]
      refine ⟨fun b h => ?_, fun h o ho hl hn => ?_⟩
      · obtain ⟨j1, j2, j3, j4⟩ := i1 b h
        refine ⟨by omega, j2, j3, fun o ho hl hn => ?_⟩
        rcases Nat.lt_or_ge o k with w | w
        · exact j4 o w hl hn
        · have : o = k := by omega
          subst this
          rw [h, hl, decide_eq_true hn, Bool.true_and, Bool.true_and] at c
          simp only [decide_eq_true_eq] at c
          omega
      · rcases Nat.lt_or_ge o k with w | w
        · exact i2 h o w hl hn
        · have : o = k := by omega
          subst this
          rw [h, hl, decide_eq_true hn] at c
          exact c rfl
theorem sl_some : slL C D i = some s → s < tot C ∧ liveB D s = true ∧ rkN C D s = i := by
  intro h
  obtain ⟨h1, h2, -⟩ := lst_some.mp h
  simp only [Bool.and_eq_true, decide_eq_true_eq] at h2
  exact ⟨h1, h2.1, h2.2⟩
theorem rk_lt (hs : s < tot C) (h1 : liveB D s = true) (e : sq D s < sq D t) : rkN C D s < rkN C D t := by
  unfold rkN
  have hc := cnt_or (p1 := fun o => liveB D o && decide (sq D o < sq D s)) (p2 := fun o => liveB D o && (decide (sq D s ≤ sq D o) && decide (sq D o < sq D t))) (p3 := fun o => liveB D o && decide (sq D o < sq D t)) (fun o => by
    cases liveB D o with
    | false => rfl
    | true =>
      simp only [Bool.true_and]
      rw [← Bool.decide_and, ← Bool.decide_or]
      exact decide_eq_decide.mpr (by omega)) (fun o => by
    cases liveB D o with
    | false => rfl
    | true =>
      simp only [Bool.true_and]
      rw [← Bool.decide_and, ← Bool.decide_and, decide_eq_false (by omega)]) (tot C)
  have hp := cnt_lt (p := fun o => liveB D o && (decide (sq D s ≤ sq D o) && decide (sq D o < sq D t))) hs (by
    show (liveB D s && (decide (sq D s ≤ sq D s) && decide (sq D s < sq D t))) = true
    rw [h1, decide_eq_true (Nat.le_refl _), decide_eq_true e]; rfl)
  omega
theorem sl_of (hN : InN C D) (hs : s < tot C) (h1 : liveB D s = true) : slL C D (rkN C D s) = some s := by
  cases e : slL C D (rkN C D s) with
  | none =>
    have := lst_none.mp e s hs
    rw [h1, decide_eq_true rfl] at this
    cases this
  | some t =>
    obtain ⟨t1, t2, t3⟩ := sl_some e
    congr 1
    rcases Nat.lt_trichotomy (sq D t) (sq D s) with w | w | w
    · have := rk_lt (C := C) t1 t2 w; omega
    · exact live_inj hN t1 hs t2 h1 w
    · have := rk_lt (C := C) hs h1 w; omega
/-- the least of all -/
theorem nx_0 (hN : InN C D) : nxF D 0 (tot C) = slL C D 0 := by
  obtain ⟨i1, i2⟩ := nx_spec (D := D) (n := 0) (tot C)
  have hp : ∀ o, o < tot C → liveB D o = true → 0 < sq D o := fun o ho hl => (node_seq (hN o ho) (live_isN hl)).2.1
  cases e : nxF D 0 (tot C) with
  | some b =>
    obtain ⟨j1, j2, j3, j4⟩ := i1 b e
    have hr : rkN C D b = 0 := cnt_zero (fun o ho => by
      cases hl : liveB D o with
      | false => rfl
      | true =>
        have := j4 o ho hl (hp o ho hl)
        rw [decide_eq_false (by omega)]; rfl)
    rw [← hr, sl_of hN j1 j2]
  | none =>
    symm
    refine lst_none.mpr (fun o ho => ?_)
    cases hl : liveB D o with
    | false => rfl
    | true => exact absurd (hp o ho hl) (i2 e o ho hl)
/-- the next -/
theorem nx_s (hN : InN C D) (h : slL C D i = some s) : nxF D (sq D s) (tot C) = slL C D (i + 1) := by
  obtain ⟨s1, s2, s3⟩ := sl_some h
  obtain ⟨i1, i2⟩ := nx_spec (D := D) (n := sq D s) (tot C)
  cases e : nxF D (sq D s) (tot C) with
  | some b =>
    obtain ⟨j1, j2, j3, j4⟩ := i1 b e
    have hr : rkN C D b = i + 1 := by
      have hc := cnt_or (p1 := fun o => liveB D o && decide (sq D o < sq D s)) (p2 := fun o => liveB D o && decide (sq D o = sq D s)) (p3 := fun o => liveB D o && (decide (sq D o < sq D s) || decide (sq D o = sq D s))) (fun o => by
        cases liveB D o <;> rfl) (fun o => by
        cases liveB D o with
        | false => rfl
        | true =>
          simp only [Bool.true_and]
          rw [← Bool.decide_and, decide_eq_false (by omega)]) (tot C)
      have h1 : cnt (fun o => liveB D o && decide (sq D o = sq D s)) (tot C) = 1 := cnt_one s1 (by rw [s2, decide_eq_true rfl]; rfl) (fun o ho hne => by
        cases hl : liveB D o with
        | false => rfl
        | true => rw [decide_eq_false (fun q => hne (live_inj hN ho s1 hl s2 q))]; rfl)
      have hb : rkN C D b = cnt (fun o => liveB D o && (decide (sq D o < sq D s) || decide (sq D o = sq D s))) (tot C) := cnt_congr (fun o ho => by
        cases hl : liveB D o with
        | false => rfl
        | true =>
          simp only [Bool.true_and]
          rw [← Bool.decide_or]
          refine decide_eq_decide.mpr ⟨fun q => ?_, fun q => by omega⟩
          rcases Nat.lt_or_ge (sq D s) (sq D o) with w | w
          · have := j4 o ho hl w; omega
          · omega)
      have hs : rkN C D s = cnt (fun o => liveB D o && decide (sq D o < sq D s)) (tot C) := rfl
      omega
    rw [← hr, sl_of hN j1 j2]
  | none =>
    symm
    cases e2 : slL C D (i + 1) with
    | none => rfl
    | some t =>
      obtain ⟨t1, t2, t3⟩ := sl_some e2
      exfalso
      have := i2 e t t1 t2
      rcases Nat.lt_or_ge (sq D t) (sq D s) with w | w
      · have := rk_lt (C := C) t1 t2 w; omega
      · have w2 : sq D t = sq D s := by omega
        have := live_inj hN t1 s1 t2 s2 w2
        rw [this] at t3
        omega
/-- behind the last there is none -/
theorem sl_end (hN : InN C D) (h : slL C D i = none) : ∀ k, i ≤ k → slL C D k = none := by
  have key : ∀ t, t < tot C → liveB D t = true → ∀ k, k ≤ rkN C D t → ∃ s, slL C D k = some s := by
    intro t t1 t2 k
    induction k with
    | zero =>
      intro _
      rw [← nx_0 hN]
      obtain ⟨-, i2⟩ := nx_spec (D := D) (n := 0) (tot C)
      cases e : nxF D 0 (tot C) with
      | some b => exact ⟨b, rfl⟩
      | none => exact absurd (node_seq (hN t t1) (live_isN t2)).2.1 (i2 e t t1 t2)
    | succ k ih =>
      intro hk
      obtain ⟨s, e⟩ := ih (by omega)
      obtain ⟨s1, s2, s3⟩ := sl_some e
      rw [← nx_s hN e]
      obtain ⟨-, i2⟩ := nx_spec (D := D) (n := sq D s) (tot C)
      cases e2 : nxF D (sq D s) (tot C) with
      | some b => exact ⟨b, rfl⟩
      | none =>
        exfalso
        have := i2 e2 t t1 t2
        rcases Nat.lt_or_ge (sq D t) (sq D s) with w | w
        · have := rk_lt (C := C) t1 t2 w; omega
        · have w2 : sq D t = sq D s := by omega
          have := live_inj hN t1 s1 t2 s2 w2
          rw [this] at hk
          omega
  intro k hk
  cases e : slL C D k with
  | none => rfl
  | some t =>
    obtain ⟨t1, t2, t3⟩ := sl_some e
    obtain ⟨s, q⟩ := key t t1 t2 i (by omega)
    rw [h] at q; cases q
end
