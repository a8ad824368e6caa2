/-! ===== the rule's E, read: by tokens ===== -/
def pEm (q : Nat × Nat × List Nat) (x : Nat) : Nat × Nat × List Nat := (q.1, q.2.1, q.2.2 ++ [x])
/-- part after part, while a joint stands between -/
def pLoop (jn : Nat → Option Nat) (r : Nat → List Nat → Nat × Nat × List Nat) : Nat → Nat × Nat × List Nat → Nat × Nat × List Nat
  | 0, q => q
  | n + 1, q => if q.1 = 0 then (match jn q.2.1 with | none => q | some x => pLoop jn r n (pEm (r (q.2.1 + 1) q.2.2) x)) else q
def jMul (f : Nat → Nat) (t i : Nat) : Option Nat := if sgB f t (tS f t i) 42 = true then some 6 else none
def jSum (f : Nat → Nat) (t i : Nat) : Option Nat := if sgB f t (tS f t i) 43 = true then some 4 else if sgB f t (tS f t i) 45 = true then some 5 else none
def jTst (f : Nat → Nat) (t i : Nat) : Option Nat := if sgB f t (tS f t i) 60 = true then some 7 else if sgB f t (tS f t i) 61 = true then some 8 else none
def jAll (f : Nat → Nat) (t i : Nat) : Option Nat := if tkK f t (tS f t i) = some 17 then some 9 else if tkK f t (tS f t i) = some 18 then some 10 else none
def pPro (f : Nat → Nat) (t : Nat) (r : Nat → List Nat → Nat × Nat × List Nat) (i : Nat) (c : List Nat) : Nat × Nat × List Nat := pLoop (jMul f t) r 1000 (r i c)
def pSum (f : Nat → Nat) (t : Nat) (r : Nat → List Nat → Nat × Nat × List Nat) (i : Nat) (c : List Nat) : Nat × Nat × List Nat := pLoop (jSum f t) (pPro f t r) 1000 (pPro f t r i c)
def pTst (f : Nat → Nat) (t : Nat) (r : Nat → List Nat → Nat × Nat × List Nat) (i : Nat) (c : List Nat) : Nat × Nat × List Nat :=
  if (pSum f t r i c).1 = 0 then (match jTst f t (pSum f t r i c).2.1 with | none => pSum f t r i c | some x => pEm (pSum f t r ((pSum f t r i c).2.1 + 1) (pSum f t r i c).2.2) x) else pSum f t r i c
def pAll (f : Nat → Nat) (t : Nat) (r : Nat → List Nat → Nat × Nat × List Nat) (i : Nat) (c : List Nat) : Nat × Nat × List Nat := pLoop (jAll f t) (pTst f t r) 1000 (pTst f t r i c)
/-- a number or a fact: what it is kept as -/
def plC (f : Nat → Nat) (t s : Nat) : Option Nat := if tkT f t s = 2 then some (1 + 16 * nuN f s (tkE f t s - s)) else match tkK f t s with
  | some k => if 19 ≤ k then some (2 + 16 * (k - 19)) else none
  | none => none
def pPar (f : Nat → Nat) (t : Nat) (r : Nat → List Nat → Nat × Nat × List Nat) (d i : Nat) (c : List Nat) : Nat × Nat × List Nat :=
  match plC f t (tS f t i) with
  | some x => if 5 ≤ d then (5 + 16 * tS f t i, i, c) else (0, i + 1, c ++ [x])
  | none => if tkK f t (tS f t i) = some 16 then (if 5 ≤ d then (5 + 16 * tS f t i, i, c) else pEm (r (i + 1) c) 3)
    else if sgB f t (tS f t i) 40 = true then (if 5 ≤ d then (5 + 16 * tS f t i, i, c) else
      if (pAll f t r (i + 1) c).1 = 0 then (if sgB f t (tS f t (pAll f t r (i + 1) c).2.1) 41 = true then (0, (pAll f t r (i + 1) c).2.1 + 1, (pAll f t r (i + 1) c).2.2) else (1 + 16 * tS f t (pAll f t r (i + 1) c).2.1, (pAll f t r (i + 1) c).2.1, (pAll f t r (i + 1) c).2.2)) else pAll f t r (i + 1) c)
    else (1 + 16 * tS f t i, i, c)
def pPart (f : Nat → Nat) (t : Nat) : Nat → Nat → Nat → List Nat → Nat × Nat × List Nat
  | 0, _, i, c => (0, i, c)
  | n + 1, d, i, c => pPar f t (pPart f t n (d + 1)) d i c
/-- positions and lengths: no more is kept than was read -/
def pB (T : Nat) (r : Nat → List Nat → Nat × Nat × List Nat) : Prop := ∀ i c k, i ≤ T → c.length + k ≤ i → i ≤ (r i c).2.1 ∧ (r i c).2.1 ≤ T ∧ (r i c).2.2.length + k ≤ (r i c).2.1
section
variable {f : Nat → Nat} {t T n m i j k d s x : Nat} {c : List Nat} {q : Nat × Nat × List Nat} {r : Nat → List Nat → Nat × Nat × List Nat} {jn : Nat → Option Nat}
theorem len_s {x : Nat} : (c ++ [x]).length = c.length + 1 := by rw [List.length_append]; rfl
theorem tok_lt (hT : tS f t T = t) (hi : i ≤ T) (h : tkT f t (tS f t i) ≠ 0) : i < T := by
  by_cases q : i = T
  · rw [q, hT] at h
    exact absurd (by unfold tkT; rw [if_neg (Nat.lt_irrefl t)]) h
  · omega
theorem sg_ty (h : sgB f t s x = true) : tkT f t s = 3 := by
  unfold sgB at h
  rw [Bool.and_eq_true, decide_eq_true_eq] at h
  exact h.1
theorem sg_lt (hT : tS f t T = t) (hi : i ≤ T) (h : sgB f t (tS f t i) x = true) : i < T := tok_lt hT hi (by rw [sg_ty h]; decide)
theorem kw_lt (hT : tS f t T = t) (hi : i ≤ T) (h : tkK f t (tS f t i) = some x) : i < T := tok_lt hT hi (by rw [(tkK_lt h).2.1]; decide)
theorem pB_loop (hr : pB T r) (hj : ∀ i x, i ≤ T → jn i = some x → i < T) : ∀ n q k, q.2.1 ≤ T → q.2.2.length + k ≤ q.2.1 → q.2.1 ≤ (pLoop jn r n q).2.1 ∧ (pLoop jn r n q).2.1 ≤ T ∧ (pLoop jn r n q).2.2.length + k ≤ (pLoop jn r n q).2.1
  | 0, q, k, h1, h2 => ⟨Nat.le_refl _, h1, h2⟩
  | n + 1, q, k, h1, h2 => by
    unfold pLoop
    by_cases c0 : q.1 = 0
    · rw [if_pos c0]
      cases e : jn q.2.1 with
      | none => exact ⟨Nat.le_refl _, h1, h2⟩
      | some x =>
        have hlt := hj _ _ h1 e
        obtain ⟨g1, g2, g3⟩ := hr (q.2.1 + 1) q.2.2 (k + 1) (by omega) (by omega)
        have h3 : (pEm (r (q.2.1 + 1) q.2.2) x).2.2.length + k ≤ (pEm (r (q.2.1 + 1) q.2.2) x).2.1 := by
          show ((r (q.2.1 + 1) q.2.2).2.2 ++ [x]).length + k ≤ (r (q.2.1 + 1) q.2.2).2.1
          rw [len_s]; omega
        obtain ⟨z1, z2, z3⟩ := pB_loop hr hj n (pEm (r (q.2.1 + 1) q.2.2) x) k g2 h3
        have z1' : (r (q.2.1 + 1) q.2.2).2.1 ≤ (pLoop jn r n (pEm (r (q.2.1 + 1) q.2.2) x)).2.1 := z1
        exact ⟨(show q.2.1 ≤ (pLoop jn r n (pEm (r (q.2.1 + 1) q.2.2) x)).2.1 by omega), z2, z3⟩
    · rw [if_neg c0]
      exact ⟨Nat.le_refl _, h1, h2⟩
theorem jMul_lt (hT : tS f t T = t) (hi : i ≤ T) (h : jMul f t i = some x) : i < T := by
  unfold jMul at h
  split at h
  · rename_i hs; exact sg_lt hT hi hs
  · cases h
theorem jSum_lt (hT : tS f t T = t) (hi : i ≤ T) (h : jSum f t i = some x) : i < T := by
  unfold jSum at h
  split at h
  · rename_i hs; exact sg_lt hT hi hs
  · split at h
    · rename_i hs; exact sg_lt hT hi hs
    · cases h
theorem jTst_lt (hT : tS f t T = t) (hi : i ≤ T) (h : jTst f t i = some x) : i < T := by
  unfold jTst at h
  split at h
  · rename_i hs; exact sg_lt hT hi hs
  · split at h
    · rename_i hs; exact sg_lt hT hi hs
    · cases h
theorem jAll_lt (hT : tS f t T = t) (hi : i ≤ T) (h : jAll f t i = some x) : i < T := by
  unfold jAll at h
  split at h
  · rename_i hs; exact kw_lt hT hi hs
  · split at h
    · rename_i hs; exact kw_lt hT hi hs
    · cases h
theorem pB_pro (hT : tS f t T = t) (hr : pB T r) : pB T (pPro f t r) := fun i c k hi hc => by
  obtain ⟨g1, g2, g3⟩ := hr i c k hi hc
  obtain ⟨z1, z2, z3⟩ := pB_loop (jn := jMul f t) hr (fun i x h1 h2 => jMul_lt hT h1 h2) 1000 (r i c) k g2 g3
  exact ⟨Nat.le_trans g1 z1, z2, z3⟩
theorem pB_sum (hT : tS f t T = t) (hr : pB T r) : pB T (pSum f t r) := fun i c k hi hc => by
  obtain ⟨g1, g2, g3⟩ := pB_pro hT hr i c k hi hc
  obtain ⟨z1, z2, z3⟩ := pB_loop (jn := jSum f t) (pB_pro hT hr) (fun i x h1 h2 => jSum_lt hT h1 h2) 1000 (pPro f t r i c) k g2 g3
  exact ⟨Nat.le_trans g1 z1, z2, z3⟩
theorem pB_tst (hT : tS f t T = t) (hr : pB T r) : pB T (pTst f t r) := fun i c k hi hc => by
  obtain ⟨g1, g2, g3⟩ := pB_sum hT hr i c k hi hc
  unfold pTst
  generalize pSum f t r i c = q at g1 g2 g3
  by_cases c0 : q.1 = 0
  · rw [if_pos c0]
    cases e : jTst f t q.2.1 with
    | none => exact ⟨g1, g2, g3⟩
    | some x =>
      have hlt := jTst_lt hT g2 e
      obtain ⟨z1, z2, z3⟩ := pB_sum hT hr (q.2.1 + 1) q.2.2 (k + 1) (by omega) (by omega)
      refine ⟨by show i ≤ (pSum f t r (q.2.1 + 1) q.2.2).2.1; omega, z2, ?_⟩
      show ((pSum f t r (q.2.1 + 1) q.2.2).2.2 ++ [x]).length + k ≤ (pSum f t r (q.2.1 + 1) q.2.2).2.1
      rw [len_s]; omega
  · rw [if_neg c0]
    exact ⟨g1, g2, g3⟩
theorem pB_all (hT : tS f t T = t) (hr : pB T r) : pB T (pAll f t r) := fun i c k hi hc => by
  obtain ⟨g1, g2, g3⟩ := pB_tst hT hr i c k hi hc
  obtain ⟨z1, z2, z3⟩ := pB_loop (jn := jAll f t) (pB_tst hT hr) (fun i x h1 h2 => jAll_lt hT h1 h2) 1000 (pTst f t r i c) k g2 g3
  exact ⟨Nat.le_trans g1 z1, z2, z3⟩
theorem plC_ty (h : plC f t s = some x) : tkT f t s ≠ 0 := by
  unfold plC at h
  by_cases c : tkT f t s = 2
  · rw [c]; decide
  · rw [if_neg c] at h
    cases e : tkK f t s with
    | none => rw [e] at h; cases h
    | some k => rw [(tkK_lt e).2.1]; decide
theorem pB_par (hT : tS f t T = t) (hr : pB T r) : pB T (pPar f t r d) := fun i c k hi hc => by
  unfold pPar
  cases e : plC f t (tS f t i) with
  | some x =>
    have hlt := tok_lt hT hi (plC_ty e)
    by_cases c5 : 5 ≤ d
    · simp only [if_pos c5]; exact ⟨Nat.le_refl _, hi, hc⟩
    · simp only [if_neg c5]
      exact ⟨Nat.le_succ _, hlt, by rw [len_s]; omega⟩
  | none =>
    simp only
    by_cases c16 : tkK f t (tS f t i) = some 16
    · rw [if_pos c16]
      have hlt := kw_lt hT hi c16
      by_cases c5 : 5 ≤ d
      · rw [if_pos c5]; exact ⟨Nat.le_refl _, hi, hc⟩
      · rw [if_neg c5]
        obtain ⟨z1, z2, z3⟩ := hr (i + 1) c (k + 1) (by omega) (by omega)
        refine ⟨by show i ≤ (r (i + 1) c).2.1; omega, z2, ?_⟩
        show ((r (i + 1) c).2.2 ++ [3]).length + k ≤ (r (i + 1) c).2.1
        rw [len_s]; omega
    · rw [if_neg c16]
      by_cases c40 : sgB f t (tS f t i) 40 = true
      · rw [if_pos c40]
        have hlt := sg_lt hT hi c40
        by_cases c5 : 5 ≤ d
        · rw [if_pos c5]; exact ⟨Nat.le_refl _, hi, hc⟩
        · rw [if_neg c5]
          obtain ⟨z1, z2, z3⟩ := pB_all hT hr (i + 1) c k (by omega) (by omega)
          generalize pAll f t r (i + 1) c = q at z1 z2 z3
          by_cases c0 : q.1 = 0
          · rw [if_pos c0]
            by_cases c41 : sgB f t (tS f t q.2.1) 41 = true
            · have := sg_lt hT z2 c41
              rw [if_pos c41]
              exact ⟨by show i ≤ q.2.1 + 1; omega, this, by show q.2.2.length + k ≤ q.2.1 + 1; omega⟩
            · rw [if_neg c41]
              exact ⟨by show i ≤ q.2.1; omega, z2, z3⟩
          · rw [if_neg c0]
            exact ⟨by omega, z2, z3⟩
      · rw [if_neg c40]; exact ⟨Nat.le_refl _, hi, hc⟩
theorem pB_part (hT : tS f t T = t) : ∀ n d, pB T (pPart f t n d)
  | 0, d => fun i c k hi hc => ⟨Nat.le_refl _, hi, hc⟩
  | n + 1, d => fun i c k hi hc => pB_par hT (pB_part hT n (d + 1)) i c k hi hc
end
