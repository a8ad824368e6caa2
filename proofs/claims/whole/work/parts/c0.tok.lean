/-! ===== tokens ===== -/
def isLt (c : Nat) : Bool := decide (97 ≤ c) && decide (c ≤ 122)
def isDg (c : Nat) : Bool := decide (48 ≤ c) && decide (c ≤ 57)
def isBl (c : Nat) : Bool := decide (c = 10) || decide (c = 32)
/-- where a run of such signs ends -/
def runE (P : Nat → Bool) (f : Nat → Nat) (t : Nat) : Nat → Nat → Nat
  | 0, p => p
  | n + 1, p => if p < t ∧ P (f p) = true then runE P f t n (p + 1) else p
def rnE (P : Nat → Bool) (f : Nat → Nat) (t p : Nat) : Nat := runE P f t (t - p) p
/-- the name of the first k letters from s, as the class counts -/
def nmF (f : Nat → Nat) (s : Nat) : Nat → Int64
  | 0 => 0
  | k + 1 => nmF f s k * 32 + Int32.toInt64 (i3 (f (s + k)) - 97 + 1)
def nuF (f : Nat → Nat) (s : Nat) : Nat → Int32
  | 0 => 0
  | k + 1 => nuF f s k * 10 + (i3 (f (s + k)) - 48)
/-- the tape of the class -/
def TpC (f : Nat → Nat) (t : Nat) (M : xM) : Prop := Lay M ∧ t ≤ 1000 ∧ gI M 10 0 1 = i3 t ∧ ∀ i, i < t → gI M 23 0 i = i3 (f i) ∧ (f i = 10 ∨ 32 ≤ f i ∧ f i ≤ 126)
section
variable {M M' N : xM} {P : Nat → Bool} {f : Nat → Nat} {fu l n m i k t p s e c : Nat} {v u : Int32} {x y : Int64}
theorem runE_le : ∀ n p, runE P f t n p ≤ p + n
  | 0, p => Nat.le_refl _
  | n + 1, p => by
    unfold runE
    split
    · have := runE_le n (p + 1); omega
    · omega
theorem runE_ge : ∀ n p, p ≤ runE P f t n p
  | 0, p => Nat.le_refl _
  | n + 1, p => by
    unfold runE
    split
    · have := runE_ge n (p + 1); omega
    · exact Nat.le_refl _
theorem rnE_b (h : p ≤ t) : p ≤ rnE P f t p ∧ rnE P f t p ≤ t := by
  have h1 := runE_le (P := P) (f := f) (t := t) (t - p) p
  have h2 := runE_ge (P := P) (f := f) (t := t) (t - p) p
  unfold rnE
  omega
theorem rnE_s (h : p < t) : rnE P f t p = if P (f p) = true then rnE P f t (p + 1) else p := by
  unfold rnE
  rw [show t - p = (t - (p + 1)) + 1 by omega]
  show (if p < t ∧ P (f p) = true then runE P f t (t - (p + 1)) (p + 1) else p) = _
  by_cases c : P (f p) = true
  · rw [if_pos ⟨h, c⟩, if_pos c]
  · rw [if_neg (fun q => c q.2), if_neg c]
theorem rnE_t : rnE P f t t = t := by unfold rnE; rw [Nat.sub_self]; rfl
theorem runE_at : ∀ n p, p + n = t → runE P f t n p < t → P (f (runE P f t n p)) = false
  | 0, p, h, h2 => by
    have : runE P f t 0 p = p := rfl
    rw [this] at h2
    omega
  | n + 1, p, h, h2 => by
    unfold runE at h2 ⊢
    by_cases c : p < t ∧ P (f p) = true
    · rw [if_pos c] at h2 ⊢
      exact runE_at n (p + 1) (by omega) h2
    · rw [if_neg c] at h2 ⊢
      cases q : P (f p) with
      | false => rfl
      | true => exact absurd ⟨h2, q⟩ c
theorem rnE_at (h : p ≤ t) (h2 : rnE P f t p < t) : P (f (rnE P f t p)) = false := runE_at (t - p) p (by omega) h2
theorem runE_in : ∀ n p, p + n = t → ∀ i, p ≤ i → i < runE P f t n p → P (f i) = true
  | 0, p, h, i, h1, h2 => by
    have : runE P f t 0 p = p := rfl
    rw [this] at h2
    omega
  | n + 1, p, h, i, h1, h2 => by
    unfold runE at h2
    by_cases c : p < t ∧ P (f p) = true
    · rw [if_pos c] at h2
      by_cases e : i = p
      · rw [e]; exact c.2
      · exact runE_in n (p + 1) (by omega) i (by omega) h2
    · rw [if_neg c] at h2; omega
theorem rnE_in (h : p ≤ t) (h1 : p ≤ i) (h2 : i < rnE P f t p) : P (f i) = true := runE_in (t - p) p (by omega) i h1 h2
theorem isL_e (hc : c ≤ 126) : F_X10_isLetter fu (i3 c) M = some (bz (isLt c), M) := by
  unfold F_X10_isLetter isLt
  by_cases h1 : 97 ≤ c
  · rw [if_neg (show ¬ i3 c < 97 from fun q => by have := (i3_lt (b := 97) (by omega) (by omega)).mp q; omega), decide_eq_true h1]
    by_cases h2 : c ≤ 122
    · rw [if_neg (show ¬ 122 < i3 c from fun q => by have := (i3_lt (a := 122) (by omega) (by omega)).mp q; omega), decide_eq_true h2, xb_t]; rfl
    · rw [if_pos (show 122 < i3 c from (i3_lt (a := 122) (by omega) (by omega)).mpr (by omega)), decide_eq_false h2, xb_f]; rfl
  · rw [if_pos (show i3 c < 97 from (i3_lt (b := 97) (by omega) (by omega)).mpr (by omega)), decide_eq_false h1, xb_f]; rfl
theorem isD_e (hc : c ≤ 126) : F_X10_isDigit fu (i3 c) M = some (bz (isDg c), M) := by
  unfold F_X10_isDigit isDg
  by_cases h1 : 48 ≤ c
  · rw [if_neg (show ¬ i3 c < 48 from fun q => by have := (i3_lt (b := 48) (by omega) (by omega)).mp q; omega), decide_eq_true h1]
    by_cases h2 : c ≤ 57
    · rw [if_neg (show ¬ 57 < i3 c from fun q => by have := (i3_lt (a := 57) (by omega) (by omega)).mp q; omega), decide_eq_true h2, xb_t]; rfl
    · rw [if_pos (show 57 < i3 c from (i3_lt (a := 57) (by omega) (by omega)).mpr (by omega)), decide_eq_false h2, xb_f]; rfl
  · rw [if_pos (show i3 c < 48 from (i3_lt (b := 48) (by omega) (by omega)).mpr (by omega)), decide_eq_false h1, xb_f]; rfl
theorem sI_sI : sI (sI M n m k u) n m k v = sI M n m k v := by
  refine Prod.ext ?_ rfl
  funext c' s' k'
  show (if c' = n ∧ s' = m ∧ k' = k then v else if c' = n ∧ s' = m ∧ k' = k then u else M.1 c' s' k') = if c' = n ∧ s' = m ∧ k' = k then v else M.1 c' s' k'
  by_cases q : c' = n ∧ s' = m ∧ k' = k
  · rw [if_pos q, if_pos q]
  · rw [if_neg q, if_neg q, if_neg q]
theorem gI_sL {c' s' k' : Nat} : gI (sL M n m k x) c' s' k' = gI M c' s' k' := rfl
theorem TpC_i (h : TpC f t M) (hi : i < t) : gI M 23 0 i = i3 (f i) ∧ f i ≤ 126 := ⟨(h.2.2.2 i hi).1, by have := (h.2.2.2 i hi).2; omega⟩
theorem TpC_s (h : TpC f t M) (hk : k ≠ 1) : TpC f t (sI M 10 0 k v) := by
  obtain ⟨h1, h2, h3, h4⟩ := h
  refine ⟨h1, h2, by rw [gI_sI, if_neg (by omega)]; exact h3, fun i hi => ?_⟩
  rw [gI_sI, if_neg (by omega)]
  exact h4 i hi
theorem TpC_L (h : TpC f t M) : TpC f t (sL M n m k x) := h
/-- blanks -/
theorem e_skip (h : TpC f t M) : ∀ m p l, p + m = t → m < l → L_X10_next_8 fu l 0 (sI M 10 0 7 (i3 p)) = J_X10_next_60 fu 0 (sI M 10 0 7 (i3 (runE isBl f t m p))) := by
  intro m
  have h1 := h.1
  have h2 := h.2.1
  have h3 := h.2.2.1
  induction m with
  | zero =>
    intro p l hp hl
    obtain ⟨l, rfl⟩ : ∃ k, l = k + 1 := ⟨l - 1, by omega⟩
    have e1 : gI (sI M 10 0 7 (i3 p)) 10 0 1 = i3 t := by rw [gI_sI, if_neg (by omega)]; exact h3
    have e7 : gI (sI M 10 0 7 (i3 p)) 10 0 7 = i3 p := by rw [gI_sI, if_pos ⟨rfl, rfl, rfl⟩]
    conv => lhs; unfold L_X10_next_8
    rw [e1, e7, if_pos ((i3_le (by omega) (by omega)).mpr (by omega))]
    rfl
  | succ m ih =>
    intro p l hp hl
    obtain ⟨l, rfl⟩ : ∃ k, l = k + 1 := ⟨l - 1, by omega⟩
    obtain ⟨g1, g2⟩ := TpC_i h (show p < t by omega)
    have hL : Lay (sI M 10 0 7 (i3 p)) := h1
    have e1 : gI (sI M 10 0 7 (i3 p)) 10 0 1 = i3 t := by rw [gI_sI, if_neg (by omega)]; exact h3
    have e7 : gI (sI M 10 0 7 (i3 p)) 10 0 7 = i3 p := by rw [gI_sI, if_pos ⟨rfl, rfl, rfl⟩]
    have e23 : gI (sI M 10 0 7 (i3 p)) 23 0 p = i3 (f p) := by rw [gI_sI, if_neg (by omega)]; exact g1
    have hn : sI (sI M 10 0 7 (i3 p)) 10 0 7 (i3 p + 1) = sI M 10 0 7 (i3 (p + 1)) := by rw [sI_sI, i3_add1]
    conv => lhs; unfold L_X10_next_8
    rw [e1, e7, if_neg (fun q => by have := (i3_le (by omega) (by omega)).mp q; omega), l10_0_0 hL]
    simp only [Option.bind_some]
    rw [n23_0 hL, xin_i3 (show p < 1000 by omega) (by omega), gd_t, xi_i3 (by omega), e23]
    by_cases c1 : f p = 10
    · rw [if_pos (show i3 (f p) = 10 by rw [c1]; rfl), hn, ih (p + 1) l (by omega) (by omega)]
      conv => rhs; unfold runE
      rw [if_pos ⟨by omega, by unfold isBl; rw [decide_eq_true c1]; rfl⟩]
    · rw [if_neg (show ¬ i3 (f p) = 10 from fun q => c1 ((i3_eq (b := 10) (by omega) (by omega)).mp q)), gd_t]
      by_cases c2 : f p = 32
      · rw [if_neg (fun q => q (show i3 (f p) = 32 by rw [c2]; rfl)), hn, ih (p + 1) l (by omega) (by omega)]
        conv => rhs; unfold runE
        rw [if_pos ⟨by omega, by unfold isBl; rw [decide_eq_true c2, Bool.or_true]⟩]
      · rw [if_pos (show ¬ i3 (f p) = 32 from fun q => c2 ((i3_eq (b := 32) (by omega) (by omega)).mp q))]
        conv => rhs; unfold runE
        rw [if_neg (fun q => by have := q.2; unfold isBl at this; rw [decide_eq_false c1, decide_eq_false c2] at this; cases this)]
end
