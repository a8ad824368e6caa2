/-! ===== feed: both sides ===== -/
def okC (c : Int32) : Bool := decide (c = 10) || (! decide (c < 32) && ! decide (126 < c))
/-- a sign laid behind -/
def adS (c : Int32) (q : Nat × (Nat → Int32)) : Nat × (Nat → Int32) := if q.1 < 1000 ∧ okC c = true then (q.1 + 1, fun i => if i = q.1 then c else q.2 i) else q
/-- eight signs of a long -/
def adL (x : Int64) (q : Nat × (Nat → Int32)) : Nat × (Nat → Int32) := adS (chV x 0) (adS (chV x 8) (adS (chV x 16) (adS (chV x 24) (adS (chV x 32) (adS (chV x 40) (adS (chV x 48) (adS (chV x 56) q)))))))
/-- the tape in a world -/
def tpM (M : xM) (q : Nat × (Nat → Int32)) : xM := (fun c s k => if c = 10 ∧ s = 0 ∧ k = 1 then i3 q.1 else if c = 23 ∧ s = 0 then q.2 k else M.1 c s k, M.2)
def tpX (X : xT) (q : Nat × (Nat → Int32)) : xT := fun j k => if j = 0 ∧ k = 2 then i3 q.1 else if j = 87 then q.2 k else X j k
/-- alike as far as the tape goes -/
def tpE (q r : Nat × (Nat → Int32)) : Prop := q.1 = r.1 ∧ ∀ i, i < q.1 → q.2 i = r.2 i
def tpOk (q : Nat × (Nat → Int32)) : Prop := q.1 ≤ 1000 ∧ ∀ i, i < q.1 → ∃ c, (c = 10 ∨ 32 ≤ c ∧ c ≤ 126) ∧ q.2 i = i3 c
section
variable {M M' : xM} {X X' : xT} {q r : Nat × (Nat → Int32)} {fu l n m i k : Nat} {c s : Int32} {x y z : Int64} {kk : Nat → Int64 → Int32 → xM → Option xM}
theorem okC_ex (h : okC c = true) : ∃ n, (n = 10 ∨ 32 ≤ n ∧ n ≤ 126) ∧ c = i3 n := by
  unfold okC at h
  rw [Bool.or_eq_true] at h
  rcases h with h | h
  · exact ⟨10, Or.inl rfl, of_decide_eq_true h⟩
  · rw [Bool.and_eq_true, Bool.not_eq_true', Bool.not_eq_true', decide_eq_false_iff_not, decide_eq_false_iff_not] at h
    obtain ⟨n, hn, rfl⟩ := i3_of (x := c) (Int32.le_trans (by decide) (Int32.not_lt.mp h.1))
    have h1 : ¬ n < 32 := fun q => h.1 ((i3_lt (b := 32) hn (by omega)).mpr q)
    have h2 : ¬ 126 < n := fun q => h.2 ((i3_lt (a := 126) (by omega) hn).mpr q)
    exact ⟨n, by omega, rfl⟩
theorem xch_i3 (h : n < 65536) : xchar (i3 n) = true := by
  unfold xchar
  have e : (i3 n).toInt = n := Int32.toInt_ofNat_of_lt (by omega)
  rw [e]
  exact decide_eq_true (by omega)
theorem adS_ok (h : tpOk q) : tpOk (adS c q) := by
  unfold adS
  split
  · rename_i hc
    obtain ⟨n, n1, n2⟩ := okC_ex hc.2
    refine ⟨by show q.1 + 1 ≤ 1000; omega, fun i hi => ?_⟩
    show ∃ c', _ ∧ (if i = q.1 then c else q.2 i) = i3 c'
    by_cases w : i = q.1
    · exact ⟨n, n1, by rw [if_pos w]; exact n2⟩
    · have hi' : i < q.1 + 1 := hi
      obtain ⟨c', c1, c2⟩ := h.2 i (by omega)
      exact ⟨c', c1, by rw [if_neg w]; exact c2⟩
  · exact h
theorem adS_E (h : tpE q r) : tpE (adS c q) (adS c r) := by
  unfold adS
  rw [← h.1]
  split
  · refine ⟨by show q.1 + 1 = q.1 + 1; rfl, fun i hi => ?_⟩
    show (if i = q.1 then c else q.2 i) = if i = q.1 then c else r.2 i
    by_cases w : i = q.1
    · rw [if_pos w, if_pos w]
    · have hi' : i < q.1 + 1 := hi
      rw [if_neg w, if_neg w]; exact h.2 i (by omega)
  · exact h
theorem adL_ok (h : tpOk q) : tpOk (adL x q) := adS_ok (adS_ok (adS_ok (adS_ok (adS_ok (adS_ok (adS_ok (adS_ok h)))))))
theorem adL_E (h : tpE q r) : tpE (adL x q) (adL x r) := adS_E (adS_E (adS_E (adS_E (adS_E (adS_E (adS_E (adS_E h)))))))
theorem tp_1 : gI (tpM M q) 10 0 1 = i3 q.1 := rfl
theorem tp_s (hq : q.1 < 1000) (hc : okC c = true) : sI (sI (tpM M q) 23 0 q.1 c) 10 0 1 (i3 (q.1 + 1)) = tpM M (adS c q) := by
  have e : adS c q = (q.1 + 1, fun i => if i = q.1 then c else q.2 i) := by unfold adS; rw [if_pos ⟨hq, hc⟩]
  rw [e]
  refine Prod.ext ?_ rfl
  funext c' s' k'
  show (if c' = 10 ∧ s' = 0 ∧ k' = 1 then i3 (q.1 + 1) else if c' = 23 ∧ s' = 0 ∧ k' = q.1 then c else if c' = 10 ∧ s' = 0 ∧ k' = 1 then i3 q.1 else if c' = 23 ∧ s' = 0 then q.2 k' else M.1 c' s' k') = (if c' = 10 ∧ s' = 0 ∧ k' = 1 then i3 (q.1 + 1) else if c' = 23 ∧ s' = 0 then (if k' = q.1 then c else q.2 k') else M.1 c' s' k')
  by_cases h1 : c' = 10 ∧ s' = 0 ∧ k' = 1
  · rw [if_pos h1, if_pos h1]
  rw [if_neg h1, if_neg h1, if_neg h1]
  by_cases h2 : c' = 23 ∧ s' = 0
  · by_cases h3 : k' = q.1
    · rw [if_pos ⟨h2.1, h2.2, h3⟩, if_pos h2, if_pos h3]
    · rw [if_neg (fun z => h3 z.2.2), if_pos h2, if_pos h2, if_neg h3]
  · rw [if_neg (fun z => h2 ⟨z.1, z.2.1⟩), if_neg h2, if_neg h2]
theorem tpX_s (hq : q.1 < 1000) (hc : okC c = true) : up (up (tpX X q) 87 q.1 c) 0 2 (i3 (q.1 + 1)) = tpX X (adS c q) := by
  have e : adS c q = (q.1 + 1, fun i => if i = q.1 then c else q.2 i) := by unfold adS; rw [if_pos ⟨hq, hc⟩]
  rw [e]
  funext j k
  rw [up_at, up_at]
  show (if j = 0 ∧ k = 2 then i3 (q.1 + 1) else if j = 87 ∧ k = q.1 then c else if j = 0 ∧ k = 2 then i3 q.1 else if j = 87 then q.2 k else X j k) = (if j = 0 ∧ k = 2 then i3 (q.1 + 1) else if j = 87 then (if k = q.1 then c else q.2 k) else X j k)
  by_cases h1 : j = 0 ∧ k = 2
  · rw [if_pos h1, if_pos h1]
  rw [if_neg h1, if_neg h1, if_neg h1]
  by_cases h2 : j = 87
  · by_cases h3 : k = q.1
    · rw [if_pos ⟨h2, h3⟩, if_pos h2, if_pos h3]
    · rw [if_neg (fun z => h3 z.2), if_pos h2, if_pos h2, if_neg h3]
  · rw [if_neg (fun z => h2 z.1), if_neg h2, if_neg h2]
theorem okC_f (h : ¬ c = 10) (h2 : c < 32 ∨ 126 < c) : okC c = false := by
  unfold okC
  rw [decide_eq_false h, Bool.false_or]
  rcases h2 with h2 | h2
  · rw [decide_eq_true h2]; rfl
  · rw [decide_eq_true h2, Bool.not_true, Bool.and_false]
theorem e_addS (h : Lay M) (hs : ¬ s < 0) (hc : chC x s = chV x s) (hq : q.1 ≤ 1000) : L_X10_add_3 fu (l + 1) 0 x s (tpM M q) = L_X10_add_3 fu l 0 x (s + (-8)) (tpM M (adS (chV x s) q)) := by
  have hL : Lay (tpM M q) := h
  unfold chC at hc
  conv => lhs; unfold L_X10_add_3
  rw [if_neg hs]
  simp only [hc]
  generalize chV x s = c
  rw [tp_1]
  by_cases c1 : q.1 < 1000
  · rw [if_neg (show ¬ (1000 : Int32) ≤ i3 q.1 from fun z => by have := (i3_le (a := 1000) (by omega) (by omega)).mp z; omega)]
    have hJ : okC c = true → J_X10_add_49 fu (L_X10_add_3 fu l) 0 x s c (tpM M q) = L_X10_add_3 fu l 0 x (s + (-8)) (tpM M (adS c q)) := fun hk => by
      obtain ⟨n, n1, n2⟩ := okC_ex hk
      unfold J_X10_add_49
      rw [l10_0_0 hL]
      simp only [Option.bind_some]
      rw [tp_1, n23_0 hL, xin_i3 c1 (by omega), gd_t, n2, xch_i3 (by omega), gd_t, xi_i3 (by omega), ← n2]
      have e1 : gI (sI (tpM M q) 23 0 q.1 c) 10 0 1 = i3 q.1 := by rw [gI_sI, if_neg (by omega)]; rfl
      rw [e1, i3_add1, tp_s c1 hk]
    by_cases c2 : c = 10
    · rw [if_pos c2]
      exact hJ (by unfold okC; rw [decide_eq_true c2]; rfl)
    rw [if_neg c2]
    by_cases c3 : c < 32
    · have e : adS c q = q := by unfold adS; rw [okC_f c2 (Or.inl c3), if_neg (fun z => by cases z.2)]
      rw [if_pos c3, e]
    rw [if_neg c3]
    by_cases c4 : 126 < c
    · have e : adS c q = q := by unfold adS; rw [okC_f c2 (Or.inr c4), if_neg (fun z => by cases z.2)]
      rw [if_pos c4, e]
    rw [if_neg c4]
    exact hJ (by unfold okC; rw [decide_eq_false c2, decide_eq_false c3, decide_eq_false c4]; rfl)
  · have e : adS c q = q := by unfold adS; rw [if_neg (fun z => c1 z.1)]
    rw [if_pos (show (1000 : Int32) ≤ i3 q.1 from (i3_le (a := 1000) (by omega) (by omega)).mpr (by omega)), e]
theorem e_addL (h : Lay M) (hq : tpOk q) (hf : 100 < fu) : F_X10_add fu 0 x (tpM M q) = some (tpM M (adL x q)) := by
  obtain ⟨l, rfl⟩ : ∃ k, fu = k + 9 := ⟨fu - 9, by omega⟩
  have o1 := adS_ok (c := chV x 56) hq
  have o2 := adS_ok (c := chV x 48) o1
  have o3 := adS_ok (c := chV x 40) o2
  have o4 := adS_ok (c := chV x 32) o3
  have o5 := adS_ok (c := chV x 24) o4
  have o6 := adS_ok (c := chV x 16) o5
  have o7 := adS_ok (c := chV x 8) o6
  unfold F_X10_add adL
  rw [e_addS h (by decide) (ch_56 x) hq.1, show (56 : Int32) + -8 = 48 by decide, e_addS h (by decide) (ch_48 x) o1.1, show (48 : Int32) + -8 = 40 by decide, e_addS h (by decide) (ch_40 x) o2.1, show (40 : Int32) + -8 = 32 by decide, e_addS h (by decide) (ch_32 x) o3.1, show (32 : Int32) + -8 = 24 by decide, e_addS h (by decide) (ch_24 x) o4.1, show (24 : Int32) + -8 = 16 by decide, e_addS h (by decide) (ch_16 x) o5.1, show (16 : Int32) + -8 = 8 by decide, e_addS h (by decide) (ch_8 x) o6.1, show (8 : Int32) + -8 = 0 by decide, e_addS h (by decide) (ch_0 x) o7.1]
  unfold L_X10_add_3
  rw [if_pos (by decide)]
end
