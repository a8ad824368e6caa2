/-! ===== a mount, in the reference: the journal by its numbers ===== -/
/-- nodes of the journal up to a number, each once -/
def jn (C : xC) (D : xT) (n : Nat) : Nat := cnt (fun s => jourB D s && decide (sq D s ≤ n)) (tot C)
def NA (C : xC) (D : xT) (G : Nat → Int32) (n : Nat) : Prop := ∀ a, a < 20 → ∃ v, G a = i3 v ∧ v < 2147483648 ∧ MapIs C D n a v
section
variable {M : xM} {D E X Y Z T P X' E' E0 E'' X'' : xT} {C : xC} {R N G G' : Nat → Int32} {fu b d L L' s o t k n m i j p q f l w nb nw a at' r g c e : Nat} {x y z v u : Int32} {nt : Bool} {K : Nat → Int32 → Int32 → xM → Option (Int32 × xM)} {W W' : Nat → Nat → Prop}
theorem cnt_or {p1 p2 p3 : Nat → Bool} (h : ∀ i, p3 i = (p1 i || p2 i)) (h2 : ∀ i, (p1 i && p2 i) = false) : ∀ n, cnt p3 n = cnt p1 n + cnt p2 n
  | 0 => rfl
  | n + 1 => by
    have ih := cnt_or h h2 n
    have q := h2 n
    rw [cnt_s, cnt_s, cnt_s, h n]
    cases e1 : p1 n <;> cases e2 : p2 n
    · simp; omega
    · simp; omega
    · simp; omega
    · rw [e1, e2] at q; exact absurd q (by decide)
theorem cnt_one {p1 : Nat → Bool} {o : Nat} : ∀ {n}, o < n → p1 o = true → (∀ i, i < n → i ≠ o → p1 i = false) → cnt p1 n = 1
  | 0, h, _, _ => absurd h (Nat.not_lt_zero _)
  | n + 1, h, h1, h2 => by
    rw [cnt_s]
    by_cases c : o = n
    · subst c
      rw [h1, if_pos rfl, cnt_zero (fun i hi => h2 i (by omega) (by omega))]
    · rw [h2 n (by omega) (fun q => c q.symm), if_neg (by decide)]
      exact cnt_one (by omega) h1 (fun i hi hne => h2 i (by omega) hne)
theorem jour_is (hA : InA L D) (hN : InN C D) (hs : s < tot C) (hj : jourB D s = true) : (D 2 s = 1 ∨ D 2 s = 2) ∧ bsN D < sq D s ∧ isN D s ∧ ∀ o, o < s → D 3 o ≠ D 3 s := by
  unfold jourB isJourT at hj
  simp only [Bool.and_eq_true, Bool.or_eq_true, decide_eq_true_eq] at hj
  obtain ⟨⟨h1, h2⟩, h3⟩ := hj
  have hn : isN D s := by rcases h1 with q | q; exact Or.inl q; exact Or.inr (Or.inl q)
  refine ⟨h1, ?_, hn, fun o ho he => ?_⟩
  · rw [(node_seq (hN s hs) hn).1, hA.2.2.2.1] at h2
    exact (i3_lt (xi_lt _) (xi_lt _)).mp h2
  · unfold isLeastT at h3
    cases e1 : lst (fun o => decide (D 3 o = D 3 s)) s with
    | none => exact absurd (lst_none.mp e1 o ho) (by simp [he])
    | some o' => rw [e1] at h3; exact absurd h3 (fun q => by cases q)
theorem jn_one (hA : InA L D) (hN : InN C D) (hS : InS C D) (hn : bsN D < n) (ho : o < tot C) (hk : D 2 o = 1 ∨ D 2 o = 2) (hq : sq D o = n) (hl : ∀ t, t < o → t < tot C → D 2 t = D 2 o → sq D t ≠ n) : cnt (fun s => jourB D s && decide (sq D s = n)) (tot C) = 1 := by
  have hno : isN D o := by rcases hk with q | q; exact Or.inl q; exact Or.inr (Or.inl q)
  have ho3 := (node_seq (hN o ho) hno).1
  have h1 := node_seq (hN o ho) hno
  have leo : ∀ t, t < o → D 3 t ≠ D 3 o := by
    intro t ht he
    have hk2 := (hS o t ho (by omega) hno he.symm).1
    exact hl t ht (by omega) hk2.symm (by unfold sq at hq ⊢; rw [he]; exact hq)
  have hjo : jourB D o = true := by
    unfold jourB isJourT isLeastT
    have e1 : lst (fun t => decide (D 3 t = D 3 o)) o = none := lst_none.mpr (fun t ht => decide_eq_false (leo t ht))
    rw [e1]
    simp only [Bool.and_eq_true, Bool.or_eq_true, decide_eq_true_eq]
    refine ⟨⟨hk, ?_⟩, trivial⟩
    rw [ho3, hA.2.2.2.1]
    exact (i3_lt (xi_lt _) (xi_lt _)).mpr (by have : sq D o = xi (D 3 o) := rfl; unfold bsN at hn; omega)
  refine cnt_one ho (by rw [hjo, decide_eq_true hq]; rfl) (fun t ht hne => ?_)
  cases e1 : jourB D t with
  | false => rfl
  | true =>
    obtain ⟨j1, j2, j3, j4⟩ := jour_is hA hN ht e1
    have ht3 := (node_seq (hN t ht) j3).1
    by_cases c : sq D t = n
    · exfalso
      have he : D 3 t = D 3 o := by rw [ht3, ho3, c, hq]
      rcases Nat.lt_or_ge t o with cc | cc
      · exact leo t cc he
      · exact j4 o (by omega) he.symm
    · rw [decide_eq_false c]; rfl
theorem jn_none (hA : InA L D) (hN : InN C D) (h1 : ∀ t, t < tot C → D 2 t = 1 → sq D t ≠ n) (h2 : ∀ t, t < tot C → D 2 t = 2 → sq D t ≠ n) : cnt (fun s => jourB D s && decide (sq D s = n)) (tot C) = 0 := by
  refine cnt_zero (fun t ht => ?_)
  cases e1 : jourB D t with
  | false => rfl
  | true =>
    obtain ⟨j1, j2, j3, j4⟩ := jour_is hA hN ht e1
    rw [decide_eq_false (fun q => by rcases j1 with w | w; exact h1 t ht w q; exact h2 t ht w q)]; rfl
theorem jn_s : jn C D (n + 1) = jn C D n + cnt (fun s => jourB D s && decide (sq D s = n + 1)) (tot C) := by
  unfold jn
  refine cnt_or (fun i => ?_) (fun i => ?_) _
  · cases jourB D i with
    | false => rfl
    | true =>
      simp only [Bool.true_and]
      rw [← Bool.decide_or]
      exact decide_eq_decide.mpr (by omega)
  · cases jourB D i with
    | false => rfl
    | true =>
      simp only [Bool.true_and]
      rw [← Bool.decide_and, decide_eq_false (by omega)]
theorem jn_0 (hA : InA L D) (hN : InN C D) : jn C D (bsN D) = 0 := by
  refine cnt_zero (fun t ht => ?_)
  cases e1 : jourB D t with
  | false => rfl
  | true =>
    obtain ⟨j1, j2, j3, j4⟩ := jour_is hA hN ht e1
    rw [decide_eq_false (by omega)]; rfl
theorem jn_all (hA : InA L D) (hN : InN C D) (hm : ∀ o, o < tot C → isN D o → sq D o ≤ m) : jn C D m = cnt (jourB D) (tot C) := by
  refine cnt_congr (fun t ht => ?_)
  cases e1 : jourB D t with
  | false => rfl
  | true =>
    obtain ⟨j1, j2, j3, j4⟩ := jour_is hA hN ht e1
    rw [decide_eq_true (hm t ht j3)]; rfl
theorem MapIs_skip (h : MapIs C D n a r) (h1 : ¬ DAl D (tot C) a (n + 1)) (h2 : ¬ GOl D (tot C) (a / 4) (n + 1)) : MapIs C D (n + 1) a r := by
  rcases h with ⟨a1, a2, a3, a4⟩ | ⟨a1, g, a2, a3, a4, a5⟩ | ⟨a1, a2⟩
  · refine Or.inl ⟨a1, by omega, a3, fun m m1 m2 => ?_⟩
    rcases Nat.lt_or_ge n m with cc | cc
    · have : m = n + 1 := by omega
      rw [this]; exact ⟨h1, h2⟩
    · exact a4 m m1 cc
  · refine Or.inr (Or.inl ⟨a1, g, a2, by omega, a4, fun m m1 m2 => ?_⟩)
    rcases Nat.lt_or_ge n m with cc | cc
    · have : m = n + 1 := by omega
      rw [this]; exact h1
    · exact a5 m m1 cc
  · refine Or.inr (Or.inr ⟨fun m m1 m2 => ?_, a2⟩)
    rcases Nat.lt_or_ge n m with cc | cc
    · have : m = n + 1 := by omega
      rw [this]; exact ⟨h1, h2⟩
    · exact a1 m m1 cc
theorem gone_f (hN : InN C D) (hs : s < tot C) (hk : D 2 s = 2) : ∃ f, f < C 0 3 ∧ D 4 s = i3 f := by
  rcases hN s hs with q | q | q
  · rw [hk] at q; exact absurd q.1 (by decide)
  · rw [hk] at q; exact absurd q.1 (by decide)
  · rcases q.2.2.2 with r | r | r
    · rw [hk] at r; exact absurd r.1 (by decide)
    · obtain ⟨-, -, -, f, g1, g2⟩ := r
      exact ⟨f, g1, g2⟩
    · rw [hk] at r; exact absurd r.1 (by decide)
theorem NA_skip (h : NA C D G n) (h1 : ∀ t, t < tot C → D 2 t = 1 → sq D t ≠ n + 1) (h2 : ∀ t, t < tot C → D 2 t = 2 → sq D t ≠ n + 1) : NA C D G (n + 1) := by
  intro a ha
  obtain ⟨v, v1, v2, v3⟩ := h a ha
  exact ⟨v, v1, v2, MapIs_skip v3 (fun ⟨t, t1, t2, t3, t4⟩ => h1 t t1 t2 t4) (fun ⟨t, t1, t2, t3, t4⟩ => h2 t t1 t2 t4)⟩
/-- a node of data of the next number -/
theorem NA_data (hN : InN C D) (hS : InS C D) (hB : CB C) (h : NA C D G n) (hb : bsN D ≤ n) (hn : n + 1 < 2147483648) (ho : o < tot C) (hk : D 2 o = 1) (hq : sq D o = n + 1) : NA C D (fun k => if k = pgT D o then i3 (n + 1) else G k) (n + 1) := by
  intro a ha
  have ho3 := (node_seq (hN o ho) (Or.inl hk)).1
  have same : ∀ t, t < tot C → isN D t → sq D t = n + 1 → D 2 t = 1 ∧ pgT D t = pgT D o := by
    intro t ht htn htq
    have ht3 := (node_seq (hN t ht) htn).1
    obtain ⟨e1, e2, e3, -⟩ := hS o t ho ht (Or.inl hk) (by rw [ho3, ht3, hq, htq])
    exact ⟨by rw [← e1]; exact hk, by unfold pgT; rw [e2, e3]⟩
  by_cases c : a = pgT D o
  · refine ⟨n + 1, if_pos c, hn, Or.inl ⟨by omega, Nat.le_refl _, ⟨o, ho, hk, c.symm, hq⟩, fun m m1 m2 => absurd m2 (by omega)⟩⟩
  · obtain ⟨v, v1, v2, v3⟩ := h a ha
    refine ⟨v, (if_neg c).trans v1, v2, MapIs_skip v3 (fun ⟨t, t1, t2, t3, t4⟩ => ?_) (fun ⟨t, t1, t2, t3, t4⟩ => ?_)⟩
    · exact c (by rw [← t3]; exact (same t t1 (Or.inl t2) t4).2)
    · have := (same t t1 (Or.inr (Or.inl t2)) t4).1
      rw [t2] at this; exact absurd this (by decide)
/-- a node that a file is gone, of the next number -/
theorem NA_gone (hN : InN C D) (hS : InS C D) (hB : CB C) (h : NA C D G n) (hb : bsN D ≤ n) (ho : o < tot C) (hk : D 2 o = 2) (hf : D 4 o = i3 f) (hf5 : f < 5) (hq : sq D o = n + 1) : NA C D (fun k => if k / 4 = f then 0 else G k) (n + 1) := by
  intro a ha
  have ho3 := (node_seq (hN o ho) (Or.inr (Or.inl hk))).1
  have same : ∀ t, t < tot C → isN D t → sq D t = n + 1 → D 2 t = 2 ∧ D 4 t = i3 f := by
    intro t ht htn htq
    have ht3 := (node_seq (hN t ht) htn).1
    obtain ⟨e1, e2, e3, -⟩ := hS o t ho ht (Or.inr (Or.inl hk)) (by rw [ho3, ht3, hq, htq])
    exact ⟨by rw [← e1]; exact hk, by rw [← e2]; exact hf⟩
  have nod : ∀ a, ¬ DAl D (tot C) a (n + 1) := fun a ⟨t, t1, t2, t3, t4⟩ => by
    have := (same t t1 (Or.inl t2) t4).1
    rw [t2] at this; exact absurd this (by decide)
  by_cases c : a / 4 = f
  · exact ⟨0, if_pos c, by omega, Or.inr (Or.inl ⟨rfl, n + 1, by omega, Nat.le_refl _, ⟨o, ho, hk, by rw [hf, xi_i3 (by omega)]; exact c.symm, hq⟩, fun m m1 m2 => absurd m2 (by omega)⟩)⟩
  · obtain ⟨v, v1, v2, v3⟩ := h a ha
    refine ⟨v, (if_neg c).trans v1, v2, MapIs_skip v3 (nod a) (fun ⟨t, t1, t2, t3, t4⟩ => ?_)⟩
    have := (same t t1 (Or.inr (Or.inl t2)) t4).2
    rw [this, xi_i3 (by omega)] at t3
    exact c t3.symm
end
