/-! ===== sums over maps are counts of puts ===== -/
/-- the sum of t over the maps that are in p -/
def sumF (p : Nat → Bool) (t : Nat → Nat) : Nat → Nat
  | 0 => 0
  | k + 1 => sumF p t k + (if p k then t k else 0)
/-- the most of sl over the maps that are in p -/
def maF (p : Nat → Bool) (sl : Nat → Nat) : Nat → Nat
  | 0 => 0
  | k + 1 => if p k then max (maF p sl k) (sl k) else maF p sl k
section
variable {fit p1 p2 : Nat → Bool} {sv sl t f : Nat → Nat} {k m n p q P K : Nat}
theorem sumF_s : sumF p1 t (k + 1) = sumF p1 t k + (if p1 k then t k else 0) := rfl
theorem maF_s : maF p1 sl (k + 1) = if p1 k then max (maF p1 sl k) (sl k) else maF p1 sl k := rfl
theorem lkF_s {l0 : Nat} {mx : Nat → Nat} {ok : Nat → Bool} : lkF l0 mx ok (k + 1) = if ok k then (if mx k < (lkF l0 mx ok k).1 then (mx k, i3 k) else lkF l0 mx ok k) else lkF l0 mx ok k := rfl
theorem cnt_imp (h : ∀ i, i < n → p1 i = true → p2 i = true) : cnt p1 n ≤ cnt p2 n := by
  induction n with
  | zero => exact Nat.le_refl _
  | succ n ih =>
    have ih2 := ih (fun i hi => h i (by omega))
    rw [cnt_s, cnt_s]
    have := h n (by omega)
    cases e : p1 n with
    | false =>
      rw [if_neg (by decide)]
      split <;> omega
    | true => rw [this e, if_pos rfl, if_pos rfl]; omega
theorem cnt_up (h : m ≤ n) : cnt p1 m ≤ cnt p1 n := by
  obtain ⟨k, rfl⟩ : ∃ k, n = m + k := ⟨n - m, by omega⟩
  rw [cnt_add]; omega
theorem ms_ub : ∀ k p, p < k → fit p = true → cnt (fun q => fit q && decide (sv q = sv p)) k ≤ msF fit sv k := by
  intro k
  induction k with
  | zero => intro p hp; omega
  | succ k ih =>
    intro p hp hf
    unfold msF
    rcases Nat.lt_or_ge p k with h | h
    · have i1 := ih p h hf
      cases e : fit k with
      | false => rw [cnt_s, e, Bool.false_and, if_neg (by decide), if_neg (by decide)]; exact i1
      | true =>
        rw [if_pos rfl]
        by_cases c : sv k = sv p
        · have : (fun q => fit q && decide (sv q = sv p)) = fun q => fit q && decide (sv q = sv k) := by rw [c]
          rw [this]; exact Nat.le_max_right _ _
        · rw [cnt_s, decide_eq_false c, Bool.and_false, if_neg (by decide)]
          exact Nat.le_trans i1 (Nat.le_max_left _ _)
    · have e : p = k := by omega
      subst e
      rw [hf, if_pos rfl]; exact Nat.le_max_right _ _
theorem ms_ex : ∀ k, msF fit sv k = 0 ∨ ∃ p, p < k ∧ fit p = true ∧ msF fit sv k ≤ cnt (fun q => fit q && decide (sv q = sv p)) k := by
  intro k
  induction k with
  | zero => exact Or.inl rfl
  | succ k ih =>
    unfold msF
    cases e : fit k with
    | false =>
      rw [if_neg (by decide)]
      rcases ih with h | ⟨p, h1, h2, h3⟩
      · exact Or.inl h
      · exact Or.inr ⟨p, by omega, h2, Nat.le_trans h3 (cnt_up (by omega))⟩
    | true =>
      rw [if_pos rfl]
      by_cases c : msF fit sv k ≤ cnt (fun q => fit q && decide (sv q = sv k)) (k + 1)
      · rw [Nat.max_eq_right c]
        exact Or.inr ⟨k, by omega, e, Nat.le_refl _⟩
      · rw [Nat.max_eq_left (by omega)]
        rcases ih with h | ⟨p, h1, h2, h3⟩
        · omega
        · exact Or.inr ⟨p, by omega, h2, Nat.le_trans h3 (cnt_up (by omega))⟩
theorem ma_ub : ∀ k m, m < k → p1 m = true → sl m ≤ maF p1 sl k := by
  intro k
  induction k with
  | zero => intro m hm; omega
  | succ k ih =>
    intro m hm hp
    unfold maF
    rcases Nat.lt_or_ge m k with h | h
    · have := ih m h hp
      split
      · exact Nat.le_trans this (Nat.le_max_left _ _)
      · exact this
    · have e : m = k := by omega
      subst e
      rw [hp, if_pos rfl]; exact Nat.le_max_right _ _
theorem ma_ex : ∀ k, maF p1 sl k = 0 ∨ ∃ m, m < k ∧ p1 m = true ∧ maF p1 sl k = sl m := by
  intro k
  induction k with
  | zero => exact Or.inl rfl
  | succ k ih =>
    unfold maF
    cases e : p1 k with
    | false =>
      rw [if_neg (by decide)]
      rcases ih with h | ⟨p, h1, h2, h3⟩
      · exact Or.inl h
      · exact Or.inr ⟨p, by omega, h2, h3⟩
    | true =>
      rw [if_pos rfl]
      by_cases c : maF p1 sl k ≤ sl k
      · rw [Nat.max_eq_right c]
        exact Or.inr ⟨k, by omega, e, rfl⟩
      · rw [Nat.max_eq_left (by omega)]
        rcases ih with h | ⟨p, h1, h2, h3⟩
        · omega
        · exact Or.inr ⟨p, by omega, h2, h3⟩
/-- the sum over the maps that are in p1 is the count of the puts whose map is -/
theorem sum_cnt (ht : ∀ m, m < K → t m = cnt (fun p => decide (f p = m)) P) : ∀ k, k ≤ K → sumF p1 t k = cnt (fun p => p1 (f p) && decide (f p < k)) P
  | 0, _ => (cnt_zero (fun i hi => by rw [decide_eq_false (Nat.not_lt_zero _), Bool.and_false])).symm
  | k + 1, hk => by
    have ih := sum_cnt ht k (by omega)
    have hs := cnt_or (p1 := fun p => p1 (f p) && decide (f p < k)) (p2 := fun p => p1 (f p) && decide (f p = k)) (p3 := fun p => p1 (f p) && decide (f p < k + 1)) (fun i => by
      cases p1 (f i) with
      | false => rfl
      | true =>
        simp only [Bool.true_and]
        rw [← Bool.decide_or]
        exact decide_eq_decide.mpr (by omega)) (fun i => by
      cases p1 (f i) with
      | false => rfl
      | true =>
        simp only [Bool.true_and]
        rw [← Bool.decide_and, decide_eq_false (by omega)]) P
    rw [hs, ← ih]
    show sumF p1 t k + (if p1 k then t k else 0) = _
    congr 1
    cases e : p1 k with
    | true =>
      rw [if_pos rfl, ht k (by omega)]
      refine cnt_congr (fun i hi => ?_)
      by_cases c : f i = k
      · rw [c, e]; rfl
      · rw [decide_eq_false c, Bool.and_false]
    | false =>
      rw [if_neg (by decide)]
      refine (cnt_zero (fun i hi => ?_)).symm
      by_cases c : f i = k
      · rw [c, e]; rfl
      · rw [decide_eq_false c, Bool.and_false]
theorem sum_all (ht : ∀ m, m < K → t m = cnt (fun p => decide (f p = m)) P) (hf : ∀ p, p < P → f p < K) : sumF p1 t K = cnt (fun p => p1 (f p)) P := by
  rw [sum_cnt ht K (Nat.le_refl _)]
  exact cnt_congr (fun i hi => by rw [decide_eq_true (hf i hi), Bool.and_true])
theorem sum_le (ht : ∀ m, m < K → t m = cnt (fun p => decide (f p = m)) P) (hk : k ≤ K) : sumF p1 t k ≤ P := by
  rw [sum_cnt ht k hk]; exact cnt_le _ _
/-- the most over puts is the most over maps -/
theorem ms_ma (hf : ∀ p, p < P → f p < K) (hu : ∀ m, m < K → ∃ p, p < P ∧ f p = m) (hfit : ∀ p, p < P → fit p = p1 (f p)) (hsl : ∀ p, p < P → sl (f p) = cnt (fun q => fit q && decide (sv q = sv p)) P) : msF fit sv P = maF p1 sl K := by
  apply Nat.le_antisymm
  · rcases ms_ex (fit := fit) (sv := sv) P with h | ⟨p, h1, h2, h3⟩
    · omega
    · rw [← hsl p h1] at h3
      exact Nat.le_trans h3 (ma_ub K (f p) (hf p h1) (by rw [← hfit p h1]; exact h2))
  · rcases ma_ex (p1 := p1) (sl := sl) K with h | ⟨m, h1, h2, h3⟩
    · omega
    · obtain ⟨p, q1, q2⟩ := hu m h1
      rw [h3, ← q2, hsl p q1]
      exact ms_ub P p q1 (by rw [hfit p q1, q2]; exact h2)
end
