/-! ===== the rule's E: its code is well formed ===== -/
/-- the height of the pile -/
def hS (h x : Nat) : Nat := if x % 16 = 1 ∨ x % 16 = 2 then h + 1 else if x % 16 = 3 then h else h - 1
def hL (c : List Nat) : Nat := c.foldl hS 0
def okX (x : Nat) : Prop := (∃ v, v ≤ 9999 ∧ x = 1 + 16 * v) ∨ (∃ k, k < 4 ∧ x = 2 + 16 * k) ∨ (3 ≤ x ∧ x ≤ 10)
/-- a sign may stand at a height -/
def cdX (h x : Nat) : Prop := okX x ∧ ((x % 16 = 1 ∨ x % 16 = 2) → h < 32) ∧ (x % 16 = 3 → 0 < h) ∧ (3 < x % 16 → 1 < h)
def WF (c : List Nat) : Prop := ∀ k, k < c.length → cdX (hL (c.take k)) (c.getD k 0)
def wfP (B : Nat) (r : Nat → List Nat → Nat × Nat × List Nat) : Prop := ∀ i c, WF c → hL c ≤ B → (r i c).1 = 0 → WF (r i c).2.2 ∧ hL (r i c).2.2 = hL c + 1
section
variable {f : Nat → Nat} {t T n i j k d s x h B : Nat} {c : List Nat} {q : Nat × Nat × List Nat} {r : Nat → List Nat → Nat × Nat × List Nat} {jn : Nat → Option Nat}
theorem hL_s : hL (c ++ [x]) = hS (hL c) x := by unfold hL; rw [List.foldl_append]; rfl
theorem WF_s (h1 : WF c) (h2 : cdX (hL c) x) : WF (c ++ [x]) := fun k hk => by
  rw [len_s] at hk
  by_cases z : k = c.length
  · subst z
    rw [List.take_append_of_le_length (Nat.le_refl _), List.take_length, List.getD_eq_getElem?_getD, List.getElem?_append_right (Nat.le_refl _), Nat.sub_self]
    exact h2
  · have := h1 k (by omega)
    rw [List.take_append_of_le_length (by omega), List.getD_eq_getElem?_getD, List.getElem?_append_left (by omega), ← List.getD_eq_getElem?_getD]
    exact this
theorem WF_0 : WF [] := fun k hk => absurd hk (Nat.not_lt_zero _)
theorem wf_loop (hr : wfP B r) (hj : ∀ i x, jn i = some x → 4 ≤ x ∧ x ≤ 10) : ∀ n q, WF q.2.2 → hL q.2.2 = h + 1 → h + 1 ≤ B → q.1 = 0 → (pLoop jn r n q).1 = 0 → WF (pLoop jn r n q).2.2 ∧ hL (pLoop jn r n q).2.2 = h + 1
  | 0, q, h1, h2, h3, h4, h5 => ⟨h1, h2⟩
  | n + 1, q, h1, h2, h3, h4, h5 => by
    cases e : jn q.2.1 with
    | none =>
      rw [pLoop_n h4 e]
      exact ⟨h1, h2⟩
    | some x =>
      rw [pLoop_j h4 e] at h5 ⊢
      have hx := hj _ _ e
      by_cases q0 : (r (q.2.1 + 1) q.2.2).1 = 0
      · obtain ⟨g1, g2⟩ := hr (q.2.1 + 1) q.2.2 h1 (by omega) q0
        have m16 : x % 16 = x := Nat.mod_eq_of_lt (by omega)
        have hcd : cdX (hL (r (q.2.1 + 1) q.2.2).2.2) x := ⟨Or.inr (Or.inr (by omega)), fun z => by omega, fun z => by omega, fun _ => by omega⟩
        have e1 : WF (pEm (r (q.2.1 + 1) q.2.2) x).2.2 := WF_s g1 hcd
        have e2 : hL (pEm (r (q.2.1 + 1) q.2.2) x).2.2 = h + 1 := by
          show hL ((r (q.2.1 + 1) q.2.2).2.2 ++ [x]) = h + 1
          rw [hL_s]
          unfold hS
          rw [if_neg (by omega), if_neg (by omega)]
          omega
        exact wf_loop hr hj n _ e1 e2 h3 q0 h5
      · exfalso
        have : ∀ n (q' : Nat × Nat × List Nat), q'.1 ≠ 0 → (pLoop jn r n q').1 ≠ 0 := fun n q' hq => by
          cases n with
          | zero => exact hq
          | succ n => rw [pLoop_f hq]; exact hq
        exact this n (pEm (r (q.2.1 + 1) q.2.2) x) q0 h5
theorem pLoop_0 : ∀ n (q : Nat × Nat × List Nat), (pLoop jn r n q).1 = 0 → q.1 = 0
  | 0, q, h => h
  | n + 1, q, h => by
    by_cases q0 : q.1 = 0
    · exact q0
    · rw [pLoop_f q0] at h; exact h
theorem jx_m (h : jMul f t i = some x) : 4 ≤ x ∧ x ≤ 10 := by
  unfold jMul at h
  split at h <;> first | (injection h with h; omega) | cases h
theorem jx_s (h : jSum f t i = some x) : 4 ≤ x ∧ x ≤ 10 := by
  unfold jSum at h
  (repeat' split at h) <;> first | (injection h with h; omega) | cases h
theorem jx_t (h : jTst f t i = some x) : 4 ≤ x ∧ x ≤ 10 := by
  unfold jTst at h
  (repeat' split at h) <;> first | (injection h with h; omega) | cases h
theorem jx_a (h : jAll f t i = some x) : 4 ≤ x ∧ x ≤ 10 := by
  unfold jAll at h
  (repeat' split at h) <;> first | (injection h with h; omega) | cases h
theorem wf_pro (hr : wfP (B + 1) r) : wfP B (pPro f t r) := fun i c h1 h2 h3 => by
  have h0 := pLoop_0 _ _ h3
  obtain ⟨g1, g2⟩ := hr i c h1 (by omega) h0
  exact wf_loop (jn := jMul f t) hr (fun i x h => jx_m h) 1000 (r i c) g1 g2 (by omega) h0 h3
theorem wf_sum (hr : wfP (B + 2) r) : wfP B (pSum f t r) := fun i c h1 h2 h3 => by
  have hr2 : wfP (B + 1) (pPro f t r) := wf_pro hr
  have h0 := pLoop_0 _ _ h3
  obtain ⟨g1, g2⟩ := hr2 i c h1 (by omega) h0
  exact wf_loop (jn := jSum f t) hr2 (fun i x h => jx_s h) 1000 (pPro f t r i c) g1 g2 (by omega) h0 h3
theorem wf_tst (hr : wfP (B + 3) r) : wfP B (pTst f t r) := fun i c h1 h2 h3 => by
  have hr2 : wfP (B + 1) (pSum f t r) := wf_sum hr
  unfold pTst at h3 ⊢
  by_cases q0 : (pSum f t r i c).1 = 0
  · obtain ⟨g1, g2⟩ := hr2 i c h1 (by omega) q0
    rw [if_pos q0] at h3 ⊢
    generalize pSum f t r i c = q at q0 g1 g2 h3 ⊢
    cases e : jTst f t q.2.1 with
    | none => exact ⟨g1, g2⟩
    | some x =>
      rw [e] at h3
      have hx := jx_t e
      have h3' : (pSum f t r (q.2.1 + 1) q.2.2).1 = 0 := h3
      obtain ⟨z1, z2⟩ := hr2 (q.2.1 + 1) q.2.2 g1 (by omega) h3'
      have m16 : x % 16 = x := Nat.mod_eq_of_lt (by omega)
      have hcd : cdX (hL (pSum f t r (q.2.1 + 1) q.2.2).2.2) x := ⟨Or.inr (Or.inr (by omega)), fun z => by omega, fun z => by omega, fun _ => by omega⟩
      refine ⟨WF_s z1 hcd, ?_⟩
      show hL ((pSum f t r (q.2.1 + 1) q.2.2).2.2 ++ [x]) = hL c + 1
      rw [hL_s]
      unfold hS
      rw [if_neg (by omega), if_neg (by omega)]
      omega
  · rw [if_neg q0] at h3
    exact absurd h3 q0
theorem wf_all (hr : wfP (B + 4) r) : wfP B (pAll f t r) := fun i c h1 h2 h3 => by
  have hr2 : wfP (B + 1) (pTst f t r) := wf_tst hr
  have h0 := pLoop_0 _ _ h3
  obtain ⟨g1, g2⟩ := hr2 i c h1 (by omega) h0
  exact wf_loop (jn := jAll f t) hr2 (fun i x h => jx_a h) 1000 (pTst f t r i c) g1 g2 (by omega) h0 h3
theorem pl_ok (h : plC f t s = some x) : okX x ∧ (x % 16 = 1 ∨ x % 16 = 2) := by
  unfold plC at h
  by_cases c2 : tkT f t s = 2
  · obtain ⟨k1, k2, k3, k4⟩ := tk_n c2
    rw [if_pos c2] at h
    injection h with h
    exact ⟨Or.inl ⟨_, k4, h.symm⟩, Or.inl (by omega)⟩
  · rw [if_neg c2] at h
    cases e : tkK f t s with
    | none => rw [e] at h; cases h
    | some k =>
      rw [e] at h
      have hk := (tkK_lt e).1
      by_cases c19 : 19 ≤ k
      · simp only [if_pos c19] at h
        injection h with h
        exact ⟨Or.inr (Or.inl ⟨k - 19, by omega, h.symm⟩), Or.inr (by omega)⟩
      · simp only [if_neg c19] at h; cases h
theorem wf_par (hr : d < 5 → wfP (4 * (d + 2)) r) : wfP (4 * (d + 1)) (pPar f t r d) := fun i c h1 h2 h3 => by
  unfold pPar at h3 ⊢
  cases ep : plC f t (tS f t i) with
  | some x =>
    rw [ep] at h3
    by_cases c5 : 5 ≤ d
    · simp only [if_pos c5] at h3; omega
    · simp only [if_neg c5]
      obtain ⟨o1, o2⟩ := pl_ok ep
      refine ⟨WF_s h1 ⟨o1, fun _ => by omega, fun z => by omega, fun z => by omega⟩, ?_⟩
      rw [hL_s]
      unfold hS
      rw [if_pos o2]
  | none =>
    rw [ep] at h3
    simp only at h3 ⊢
    by_cases c16 : tkK f t (tS f t i) = some 16
    · rw [if_pos c16] at h3 ⊢
      by_cases c5 : 5 ≤ d
      · rw [if_pos c5] at h3
        have h3' : 5 + 16 * tS f t i = 0 := h3
        omega
      · rw [if_neg c5] at h3 ⊢
        obtain ⟨z1, z2⟩ := hr (by omega) (i + 1) c h1 (by omega) h3
        refine ⟨WF_s z1 ⟨Or.inr (Or.inr (by omega)), fun z => by omega, fun z => by omega, fun z => by omega⟩, ?_⟩
        show hL ((r (i + 1) c).2.2 ++ [3]) = hL c + 1
        rw [hL_s]
        unfold hS
        rw [if_neg (by omega), if_pos (by omega), z2]
    · rw [if_neg c16] at h3 ⊢
      by_cases c40 : sgB f t (tS f t i) 40 = true
      · rw [if_pos c40] at h3 ⊢
        by_cases c5 : 5 ≤ d
        · rw [if_pos c5] at h3
          have h3' : 5 + 16 * tS f t i = 0 := h3
          omega
        · rw [if_neg c5] at h3 ⊢
          have hA : wfP (4 * (d + 1)) (pAll f t r) := wf_all (by have := hr (by omega); rw [show 4 * (d + 1) + 4 = 4 * (d + 2) by omega]; exact this)
          by_cases q0 : (pAll f t r (i + 1) c).1 = 0
          · obtain ⟨z1, z2⟩ := hA (i + 1) c h1 (by omega) q0
            rw [if_pos q0] at h3 ⊢
            by_cases c41 : sgB f t (tS f t (pAll f t r (i + 1) c).2.1) 41 = true
            · rw [if_pos c41]; exact ⟨z1, z2⟩
            · rw [if_neg c41] at h3
              have h3' : 1 + 16 * tS f t (pAll f t r (i + 1) c).2.1 = 0 := h3
              omega
          · rw [if_neg q0] at h3
            exact absurd h3 q0
      · rw [if_neg c40] at h3
        have h3' : 1 + 16 * tS f t i = 0 := h3
        omega
theorem wf_part : ∀ n d, d ≤ 5 → 6 ≤ n + d → wfP (4 * (d + 1)) (pPart f t n d)
  | 0, d, h1, h2 => by omega
  | n + 1, d, h1, h2 => by
    have := wf_par (f := f) (t := t) (r := pPart f t n (d + 1)) (d := d) (fun hd => wf_part n (d + 1) (by omega) (by omega))
    exact this
theorem hgt_h (hc : WF c) (R : Nat → Int32) (hR : ∀ k, k < c.length → R k = clsC (c.getD k 0)) : ∀ k, k ≤ c.length → hgt R k = hL (c.take k)
  | 0, _ => rfl
  | k + 1, hk => by
    have ih := hgt_h hc R hR k (by omega)
    have ht : c.take (k + 1) = c.take k ++ [c.getD k 0] := by
      rw [List.take_succ, List.getElem?_eq_getElem (by omega), List.getD_eq_getElem?_getD, List.getElem?_eq_getElem (by omega)]
      rfl
    obtain ⟨o1, o2, o3, o4⟩ := hc k (by omega)
    rw [ht, hL_s, ← ih]
    show (if ¬ R k ≤ -5 then hgt R k + 1 else if R k = -5 then hgt R k else hgt R k - 1) = _
    rw [hR k (by omega)]
    generalize c.getD k 0 = x at o1
    unfold hS
    rcases o1 with ⟨v, v1, rfl⟩ | ⟨j, j1, rfl⟩ | ⟨x1, x2⟩
    · have e : clsC (1 + 16 * v) = i3 v := cls_n v
      rw [e, if_pos (fun z => by
        have h0 : (0 : Int32) ≤ i3 v := ge0 (by omega)
        exact absurd (Int32.le_trans h0 z) (by decide)), if_pos (Or.inl (by omega))]
    · rcases (show j = 0 ∨ j = 1 ∨ j = 2 ∨ j = 3 by omega) with rfl | rfl | rfl | rfl
      · rw [if_pos (by decide), if_pos (by decide)]
      · rw [if_pos (by decide), if_pos (by decide)]
      · rw [if_pos (by decide), if_pos (by decide)]
      · rw [if_pos (by decide), if_pos (by decide)]
    · rcases (show x = 3 ∨ x = 4 ∨ x = 5 ∨ x = 6 ∨ x = 7 ∨ x = 8 ∨ x = 9 ∨ x = 10 by omega) with rfl | rfl | rfl | rfl | rfl | rfl | rfl | rfl
      · rw [if_neg (by decide), if_pos (by decide), if_neg (by decide), if_pos (by decide)]
      all_goals rw [if_neg (by decide), if_neg (by decide), if_neg (by decide), if_neg (by decide)]
end
