/-! ===== tokens: words and numbers ===== -/
/-- the words with a meaning, by letters -/
def wlT : List (List Nat) := [
  [2, 12, 15, 3, 11, 19],
  [19, 12, 15, 20, 19],
  [18, 5, 19, 5, 18, 22, 5],
  [6, 9, 12, 5],
  [16, 1, 7, 5, 19],
  [3, 15, 12, 12, 5, 3, 20, 19],
  [23, 18, 9, 20, 5],
  [18, 5, 13, 15, 22, 5],
  [15, 16, 5, 14],
  [3, 12, 15, 19, 5],
  [3, 15, 13, 13, 9, 20],
  [3, 15, 12, 12, 5, 3, 20],
  [16, 12, 1, 9, 14],
  [12, 15, 7],
  [20, 23, 9, 14],
  [19, 25, 14, 3],
  [14, 15, 20],
  [1, 14, 4],
  [15, 18],
  [5, 18, 1, 19, 5, 4],
  [12, 9, 22, 5],
  [4, 9, 18, 20, 25],
  [10, 15, 21, 18, 14, 1, 12]]
def wlG (k : Nat) : List Nat := wlT.getD k []
/-- k letters from s -/
def ltr (f : Nat → Nat) (s k : Nat) : List Nat := (List.range k).map (fun i => f (s + i) - 96)
def padL (l : List Nat) (i : Nat) : Int32 := if i < l.length then i3 (l.getD i 0 + 96) else 32
/-- which word that is -/
def wdI (l : List Nat) : Int32 := match lst (fun k => decide (wlG k = l)) 23 with
  | some k => i3 k
  | none => -1
def wN (M : xM) (e : Nat) (v : Int64) : xM := sI (sL M 10 0 6 v) 10 0 8 (i3 e)
def nN (M : xM) (e : Nat) (v : Int32) : xM := sI (sI M 10 0 4 v) 10 0 8 (i3 e)
section
variable {M M' N : xM} {P : Nat → Bool} {f : Nat → Nat} {fu l n m i j k t p s e c w a b : Nat} {v u : Int32} {x y : Int64} {ls ls' : List Nat} {kk : Nat → Int32 → xM → Option (Int32 × xM)}
theorem wl_x : ∀ w : Fin 23, ∀ i : Fin 8, xstr 1 (8 * w + i) = padL (wlG w) i := by decide +kernel
theorem wl_ok : ∀ w : Fin 23, (wlG w).length ≤ 8 ∧ (∀ x ∈ wlG w, 1 ≤ x ∧ x ≤ 26) ∧ enc 37 (wlG w) = wdL.getD w 0 := by decide +kernel
theorem wl_ne : ∀ w v : Fin 23, wlG w = wlG v → w = v := by decide +kernel
theorem sI_cm (h : a ≠ b) : sI (sI M 10 0 a v) 10 0 b u = sI (sI M 10 0 b u) 10 0 a v := by
  refine Prod.ext ?_ rfl
  funext c' s' k'
  show (if c' = 10 ∧ s' = 0 ∧ k' = b then u else if c' = 10 ∧ s' = 0 ∧ k' = a then v else M.1 c' s' k') = (if c' = 10 ∧ s' = 0 ∧ k' = a then v else if c' = 10 ∧ s' = 0 ∧ k' = b then u else M.1 c' s' k')
  by_cases q : c' = 10 ∧ s' = 0 ∧ k' = b
  · rw [if_pos q, if_neg (by omega), if_pos q]
  · rw [if_neg q, if_neg q]
theorem gD_eq {l : List Nat} {i : Nat} (h : i < l.length) : l.getD i 0 = l[i]'h := (List.getElem_eq_getD 0).symm
theorem pad_inj (h1 : ls.length ≤ 8) (h2 : ls'.length ≤ 8) (g1 : ∀ x, x ∈ ls → 1 ≤ x ∧ x ≤ 26) (g2 : ∀ x, x ∈ ls' → 1 ≤ x ∧ x ≤ 26) (h : ∀ i, i < 8 → padL ls i = padL ls' i) : ls = ls' := by
  have hm : ∀ (l : List Nat) i, i < l.length → l.getD i 0 ∈ l := fun l i hi => by
    rw [gD_eq hi]; exact List.getElem_mem hi
  have hl : ls.length = ls'.length := by
    rcases Nat.lt_trichotomy ls.length ls'.length with q | q | q
    · have := h ls.length (by omega)
      unfold padL at this
      rw [if_neg (Nat.lt_irrefl _), if_pos q] at this
      have z := g2 _ (hm ls' ls.length q)
      have := (i3_eq (a := 32) (by omega) (by omega)).mp this
      omega
    · exact q
    · have := h ls'.length (by omega)
      unfold padL at this
      rw [if_neg (Nat.lt_irrefl _), if_pos q] at this
      have z := g1 _ (hm ls ls'.length q)
      have := (i3_eq (b := 32) (by omega) (by omega)).mp this
      omega
  refine List.ext_getElem hl (fun i hi hi' => ?_)
  have := h i (by omega)
  unfold padL at this
  rw [if_pos hi, if_pos hi', gD_eq hi, gD_eq hi'] at this
  have z1 := g1 _ (List.getElem_mem hi)
  have z2 := g2 _ (List.getElem_mem hi')
  have := (i3_eq (by omega) (by omega)).mp this
  omega
theorem ltr_len : (ltr f s k).length = k := by unfold ltr; rw [List.length_map, List.length_range]
theorem ltr_at (h : i < k) : (ltr f s k).getD i 0 = f (s + i) - 96 := by
  have hl : i < ((List.range k).map (fun i => f (s + i) - 96)).length := by rw [List.length_map, List.length_range]; exact h
  show ((List.range k).map (fun i => f (s + i) - 96)).getD i 0 = _
  rw [gD_eq hl, List.getElem_map, List.getElem_range]
theorem ltr_in (h : ∀ i, i < k → isLt (f (s + i)) = true) : ∀ x, x ∈ ltr f s k → 1 ≤ x ∧ x ≤ 26 := fun x hx => by
  unfold ltr at hx
  obtain ⟨i, h1, h2⟩ := List.mem_map.mp hx
  have := h i (List.mem_range.mp h1)
  unfold isLt at this
  rw [Bool.and_eq_true, decide_eq_true_eq, decide_eq_true_eq] at this
  omega
theorem isLt_r (h : isLt c = true) : 97 ≤ c ∧ c ≤ 122 := by
  unfold isLt at h
  rw [Bool.and_eq_true, decide_eq_true_eq, decide_eq_true_eq] at h
  exact h
theorem isDg_r (h : isDg c = true) : 48 ≤ c ∧ c ≤ 57 := by
  unfold isDg at h
  rw [Bool.and_eq_true, decide_eq_true_eq, decide_eq_true_eq] at h
  exact h
/-- a letter of the word at hand -/
theorem e_letter (h : TpC f t M) (h7 : gI M 10 0 7 = i3 s) (h8 : gI M 10 0 8 = i3 (s + k)) (hk : s + k ≤ t) (hl : ∀ i, i < k → isLt (f (s + i)) = true) (hj : j < 8) : F_X10_letter fu 0 (i3 j) M = some (padL (ltr f s k) j, M) := by
  have h2 := h.2.1
  unfold F_X10_letter padL
  rw [h7, h8, i3_add, ltr_len]
  by_cases c : j < k
  · obtain ⟨g1, g2⟩ := TpC_i h (show s + j < t by omega)
    have hr := isLt_r (hl j c)
    rw [if_neg (fun q => by have := (i3_le (by omega) (by omega)).mp q; omega), if_pos c, l10_0_0 h.1]
    simp only [Option.bind_some]
    rw [n23_0 h.1, xin_i3 (show s + j < 1000 by omega) (by omega), gd_t, xi_i3 (by omega), g1, xch_i3 (by omega), gd_t, ltr_at c, show f (s + j) - 96 + 96 = f (s + j) by omega]
  · rw [if_pos ((i3_le (by omega) (by omega)).mpr (by omega)), if_neg c, show xchar 32 = true from xch_i3 (n := 32) (by omega), gd_t]
theorem e_known10 (h : TpC f t M) (h7 : gI M 10 0 7 = i3 s) (h8 : gI M 10 0 8 = i3 (s + k)) (hk : s + k ≤ t) (hl : ∀ i, i < k → isLt (f (s + i)) = true) (hw : w < 23) : ∀ m j l, j + m = 8 → m < l → (∀ i, i < j → padL (wlG w) i = padL (ltr f s k) i) →
    ((∀ i, i < 8 → padL (wlG w) i = padL (ltr f s k) i) → L_X10_knownWord_10 fu kk l 0 (i3 w) (i3 j) M = some (i3 w, M)) ∧ (¬ (∀ i, i < 8 → padL (wlG w) i = padL (ltr f s k) i) → L_X10_knownWord_10 fu kk l 0 (i3 w) (i3 j) M = kk 0 (i3 (w + 1)) M) := by
  intro m
  induction m with
  | zero =>
    intro j l hj hl' hi
    obtain ⟨l, rfl⟩ : ∃ k, l = k + 1 := ⟨l - 1, by omega⟩
    have hj8 : j = 8 := by omega
    subst hj8
    refine ⟨fun _ => ?_, fun q => absurd hi q⟩
    conv => lhs; unfold L_X10_knownWord_10
    rw [if_pos (show (8 : Int32) ≤ i3 8 from Int32.le_refl _)]
    unfold J_X10_knownWord_41
    rw [if_neg (fun q => q rfl)]
  | succ m ih =>
    intro j l hj hl' hi
    obtain ⟨l, rfl⟩ : ∃ k, l = k + 1 := ⟨l - 1, by omega⟩
    have el := e_letter (fu := fu) (j := j) h h7 h8 hk hl (by omega)
    have ei : i3 w * 8 + i3 j = i3 (8 * w + j) := by rw [show (8 : Int32) = i3 8 from rfl, i3_mul, i3_add, Nat.mul_comm]
    have hn : xstrN 1 = 184 := by decide +kernel
    have hx : xstr 1 (8 * w + j) = padL (wlG w) j := wl_x ⟨w, hw⟩ ⟨j, by omega⟩
    have hu : L_X10_knownWord_10 fu kk (l + 1) 0 (i3 w) (i3 j) M = if ¬ padL (wlG w) j = padL (ltr f s k) j then kk 0 (i3 (w + 1)) M else L_X10_knownWord_10 fu kk l 0 (i3 w) (i3 (j + 1)) M := by
      conv => lhs; unfold L_X10_knownWord_10
      rw [if_neg (fun q => by have := (i3_le (a := 8) (by omega) (by omega)).mp q; omega), ei, hn, xin_i3 (show 8 * w + j < 184 by omega) (by omega), gd_t, el]
      simp only [Option.bind_some]
      rw [xi_i3 (by omega), hx, i3_add1]
      unfold J_X10_knownWord_41
      rw [if_pos (show ¬ i3 j = 8 from fun q => by have := (i3_eq (b := 8) (by omega) (by omega)).mp q; omega), i3_add1]
    rw [hu]
    by_cases c : padL (wlG w) j = padL (ltr f s k) j
    · rw [if_neg (fun q => q c)]
      refine ih (j + 1) l (by omega) (by omega) (fun i hi' => ?_)
      by_cases q : i = j
      · rw [q]; exact c
      · exact hi i (by omega)
    · rw [if_pos c]
      exact ⟨fun q => absurd (q j (by omega)) c, fun _ => rfl⟩
theorem e_known (h : TpC f t M) (h7 : gI M 10 0 7 = i3 s) (h8 : gI M 10 0 8 = i3 (s + k)) (hk : s + k ≤ t) (hk8 : k ≤ 8) (hl : ∀ i, i < k → isLt (f (s + i)) = true) (hf : 1100 < fu) : F_X10_knownWord fu 0 M = some (wdI (ltr f s k), M) := by
  have hin := ltr_in hl
  have hq : ∀ w, w < 23 → ((∀ i, i < 8 → padL (wlG w) i = padL (ltr f s k) i) ↔ wlG w = ltr f s k) := fun w hw => by
    obtain ⟨g1, g2, -⟩ := wl_ok ⟨w, hw⟩
    exact ⟨fun z => pad_inj g1 (by rw [ltr_len]; exact hk8) g2 hin z, fun z i _ => by rw [z]⟩
  have hstep : ∀ l w, w < 23 → L_X10_knownWord_2 fu (l + 1) 0 (i3 w) M = if wlG w = ltr f s k then some (i3 w, M) else L_X10_knownWord_2 fu l 0 (i3 (w + 1)) M := fun l w hw => by
    obtain ⟨g1, g2⟩ := e_known10 (fu := fu) (kk := L_X10_knownWord_2 fu l) h h7 h8 hk hl hw 8 0 fu (by omega) (by omega) (fun i hi => absurd hi (Nat.not_lt_zero _))
    conv => lhs; unfold L_X10_knownWord_2
    rw [if_neg (fun q => by have := (i3_le (a := 23) (by omega) (by omega)).mp q; omega)]
    by_cases c : wlG w = ltr f s k
    · rw [if_pos c]; exact g1 ((hq w hw).mpr c)
    · rw [if_neg c]; exact g2 (fun z => c ((hq w hw).mp z))
  unfold F_X10_knownWord wdI
  cases e : lst (fun k_1 => decide (wlG k_1 = ltr f s k)) 23 with
  | none =>
    have hn := lst_none.mp e
    have key : ∀ m w l, w + m = 23 → m < l → L_X10_knownWord_2 fu l 0 (i3 w) M = some (-1, M) := by
      intro m
      induction m with
      | zero =>
        intro w l hw hl'
        obtain ⟨l, rfl⟩ : ∃ k, l = k + 1 := ⟨l - 1, by omega⟩
        have : w = 23 := by omega
        subst this
        unfold L_X10_knownWord_2
        rw [if_pos (show (23 : Int32) ≤ i3 23 from Int32.le_refl _)]
      | succ m ih =>
        intro w l hw hl'
        obtain ⟨l, rfl⟩ : ∃ k, l = k + 1 := ⟨l - 1, by omega⟩
        rw [hstep l w (by omega), if_neg (by have := hn w (by omega); simpa using this)]
        exact ih (w + 1) l (by omega) (by omega)
    exact key 23 0 fu (by omega) (by omega)
  | some k0 =>
    obtain ⟨h1, h2, h3⟩ := lst_some.mp e
    have key : ∀ m w l, w + m = k0 → m < l → L_X10_knownWord_2 fu l 0 (i3 w) M = some (i3 k0, M) := by
      intro m
      induction m with
      | zero =>
        intro w l hw hl'
        obtain ⟨l, rfl⟩ : ∃ k, l = k + 1 := ⟨l - 1, by omega⟩
        have : w = k0 := by omega
        subst this
        rw [hstep l w (by omega), if_pos (of_decide_eq_true h2)]
      | succ m ih =>
        intro w l hw hl'
        obtain ⟨l, rfl⟩ : ∃ k, l = k + 1 := ⟨l - 1, by omega⟩
        rw [hstep l w (by omega), if_neg (by have := h3 w (by omega); simpa using this)]
        exact ih (w + 1) l (by omega) (by omega)
    exact key k0 0 fu (by omega) (by omega)
end
