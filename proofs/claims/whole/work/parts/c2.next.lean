/-! ===== tokens: the next one, the class ===== -/
def isSg (c : Nat) : Bool := decide (c = 40) || decide (c = 41) || decide (c = 60) || decide (c = 61) || decide (c = 43) || decide (c = 45) || decide (c = 42) || decide (c = 59)
/-- where the token at s ends -/
def tkE (f : Nat → Nat) (t s : Nat) : Nat := if s < t then (if isLt (f s) = true then rnE isLt f t s else if isDg (f s) = true then rnE isDg f t s else s + 1) else s
/-- its type -/
def tkT (f : Nat → Nat) (t s : Nat) : Nat := if s < t then (if isLt (f s) = true then (if 8 < rnE isLt f t s - s then 4 else 1) else if isDg (f s) = true then (if 4 < rnE isDg f t s - s then 4 else 2) else if isSg (f s) = true then 3 else 4) else 0
/-- the word's letters -/
def tkL (f : Nat → Nat) (t s : Nat) : List Nat := ltr f s (rnE isLt f t s - s)
def tkW (f : Nat → Nat) (t s : Nat) : Int32 := if tkT f t s = 1 then wdI (tkL f t s) else -1
/-- the class at the token that starts at s -/
def AtC (f : Nat → Nat) (t s : Nat) (M : xM) : Prop := TpC f t M ∧ s ≤ t ∧ gI M 10 0 7 = i3 s ∧ gI M 10 0 8 = i3 (tkE f t s) ∧ gI M 10 0 2 = i3 (tkT f t s) ∧ gI M 10 0 3 = tkW f t s ∧
  (tkT f t s = 2 → gI M 10 0 4 = nuF f s (tkE f t s - s)) ∧ (tkT f t s = 3 → gI M 10 0 5 = i3 (f s)) ∧ (tkT f t s = 1 → gL M 10 0 6 = nmF f s (tkE f t s - s))
/-- what reading on leaves alone -/
def NxF (M M' : xM) : Prop := (∀ c s k, gR M' c s k = gR M c s k) ∧ (∀ c s, gN M' c s = gN M c s) ∧ (∀ c s k, (c ≠ 10 ∨ s ≠ 0 ∨ k ≠ 6) → gL M' c s k = gL M c s k) ∧ ∀ c s k, (c ≠ 10 ∨ s ≠ 0 ∨ k = 1 ∨ k = 9) → gI M' c s k = gI M c s k
section
variable {M M' M1 N : xM} {P : Nat → Bool} {f : Nat → Nat} {fu l n m i j k t p s e c w a b : Nat} {v u : Int32} {x y : Int64}
theorem NxF_tr (h : NxF M M1) (h2 : NxF M1 M') : NxF M M' := ⟨fun c s k => (h2.1 c s k).trans (h.1 c s k), fun c s => (h2.2.1 c s).trans (h.2.1 c s), fun c s k q => (h2.2.2.1 c s k q).trans (h.2.2.1 c s k q), fun c s k q => (h2.2.2.2 c s k q).trans (h.2.2.2 c s k q)⟩
theorem NxF_rf : NxF M M := ⟨fun _ _ _ => rfl, fun _ _ => rfl, fun _ _ _ _ => rfl, fun _ _ _ _ => rfl⟩
theorem NxF_I (hk : k ≠ 1 ∧ k ≠ 9) : NxF M (sI M 10 0 k v) := ⟨fun _ _ _ => rfl, fun _ _ => rfl, fun _ _ _ _ => rfl, fun c s i q => by rw [gI_sI, if_neg (by omega)]⟩
theorem NxF_L : NxF M (sL M 10 0 6 x) := ⟨fun _ _ _ => rfl, fun _ _ => rfl, fun c s k q => by
  show (if c = 10 ∧ s = 0 ∧ k = 6 then x else gL M c s k) = gL M c s k
  rw [if_neg (by omega)], fun _ _ _ _ => rfl⟩
theorem sg_x : ∀ c : Fin 127, isSg c = ! decide (xstrF 0 (i3 c) < 0) := by decide +kernel
theorem nN_8 : gI (nN M p v) 10 0 8 = i3 p := by unfold nN; rw [gI_sI, if_pos ⟨rfl, rfl, rfl⟩]
theorem nN_4 : gI (nN M p v) 10 0 4 = v := by unfold nN; rw [gI_sI, if_neg (by omega), gI_sI, if_pos ⟨rfl, rfl, rfl⟩]
theorem nN_o (h : n ≠ 10 ∨ m ≠ 0 ∨ k ≠ 4 ∧ k ≠ 8) : gI (nN M p v) n m k = gI M n m k := by unfold nN; rw [gI_sI, if_neg (by omega), gI_sI, if_neg (by omega)]
theorem nN_s : sI (sI (nN M p v) 10 0 4 u) 10 0 8 (i3 e) = nN M e u := by
  unfold nN
  rw [sI_cm (a := 8) (b := 4) (by omega), sI_sI, sI_sI]
theorem wN_8 : gI (wN M p x) 10 0 8 = i3 p := by unfold wN; rw [gI_sI, if_pos ⟨rfl, rfl, rfl⟩]
theorem wN_6 : gL (wN M p x) 10 0 6 = x := by
  show (if 10 = 10 ∧ 0 = 0 ∧ 6 = 6 then x else gL M 10 0 6) = x
  rw [if_pos ⟨rfl, rfl, rfl⟩]
theorem wN_o (h : n ≠ 10 ∨ m ≠ 0 ∨ k ≠ 8) : gI (wN M p x) n m k = gI M n m k := by unfold wN; rw [gI_sI, if_neg (by omega)]; rfl
theorem wN_s : sI (sL (wN M p x) 10 0 6 y) 10 0 8 (i3 e) = wN M e y := by
  have e1 : sL (wN M p x) 10 0 6 y = sI (sL (sL M 10 0 6 x) 10 0 6 y) 10 0 8 (i3 p) := rfl
  rw [e1, sL_sL, sI_sI]
  rfl
theorem TpC_w (h : TpC f t M) : TpC f t (wN M p x) := TpC_s (M := sL M 10 0 6 x) h (by omega)
theorem TpC_n (h : TpC f t M) : TpC f t (nN M p v) := TpC_s (TpC_s h (by omega)) (by omega)
theorem e_word (h : TpC f t M) : ∀ m k l, s + k + m = t → m < l → L_X10_readWord_5 fu l 0 (wN M (s + k) (nmF f s k)) = J_X10_readWord_72 fu 0 (wN M (runE isLt f t m (s + k)) (nmF f s (runE isLt f t m (s + k) - s))) := by
  intro m
  induction m with
  | zero =>
    intro k l hp hl
    obtain ⟨l, rfl⟩ : ∃ k, l = k + 1 := ⟨l - 1, by omega⟩
    have hT := TpC_w (p := s + k) (x := nmF f s k) h
    have h2 := h.2.1
    conv => lhs; unfold L_X10_readWord_5
    rw [hT.2.2.1, wN_8, if_pos ((i3_le (by omega) (by omega)).mpr (by omega))]
    show J_X10_readWord_72 fu 0 (wN M (s + k) (nmF f s k)) = J_X10_readWord_72 fu 0 (wN M (s + k) (nmF f s (s + k - s)))
    rw [show s + k - s = k by omega]
  | succ m ih =>
    intro k l hp hl
    obtain ⟨l, rfl⟩ : ∃ k, l = k + 1 := ⟨l - 1, by omega⟩
    have hT := TpC_w (p := s + k) (x := nmF f s k) h
    have h2 := h.2.1
    obtain ⟨g1, g2⟩ := TpC_i hT (show s + k < t by omega)
    conv => lhs; unfold L_X10_readWord_5
    rw [hT.2.2.1, wN_8, if_neg (fun q => by have := (i3_le (by omega) (by omega)).mp q; omega), l10_0_0 hT.1]
    simp only [Option.bind_some]
    rw [n23_0 hT.1, xin_i3 (show s + k < 1000 by omega) (by omega), gd_t, xi_i3 (by omega), g1, isL_e g2]
    simp only [Option.bind_some, bz_0]
    conv => rhs; unfold runE
    cases c : isLt (f (s + k)) with
    | false =>
      rw [if_pos rfl, if_neg (fun q => by cases q.2), show s + k - s = k by omega]
    | true =>
      rw [if_neg (by decide), if_pos ⟨by omega, rfl⟩, l10_0_0 hT.1]
      simp only [Option.bind_some]
      rw [n23_0 hT.1, wN_8, xin_i3 (show s + k < 1000 by omega) (by omega), gd_t, xi_i3 (by omega), g1, wN_6]
      have e8 : gI (sL (wN M (s + k) (nmF f s k)) 10 0 6 (nmF f s k * 32 + Int32.toInt64 (i3 (f (s + k)) - 97 + 1))) 10 0 8 = i3 (s + k) := wN_8 (M := M) (x := nmF f s k)
      rw [e8, i3_add1, wN_s]
      exact ih (k + 1) l (by omega) (by omega)
theorem e_numb (h : TpC f t M) : ∀ m k l, s + k + m = t → m < l → L_X10_readNumber_5 fu l 0 (nN M (s + k) (nuF f s k)) = J_X10_readNumber_68 fu 0 (nN M (runE isDg f t m (s + k)) (nuF f s (runE isDg f t m (s + k) - s))) := by
  intro m
  induction m with
  | zero =>
    intro k l hp hl
    obtain ⟨l, rfl⟩ : ∃ k, l = k + 1 := ⟨l - 1, by omega⟩
    have hT := TpC_n (p := s + k) (v := nuF f s k) h
    have h2 := h.2.1
    conv => lhs; unfold L_X10_readNumber_5
    rw [hT.2.2.1, nN_8, if_pos ((i3_le (by omega) (by omega)).mpr (by omega))]
    show J_X10_readNumber_68 fu 0 (nN M (s + k) (nuF f s k)) = J_X10_readNumber_68 fu 0 (nN M (s + k) (nuF f s (s + k - s)))
    rw [show s + k - s = k by omega]
  | succ m ih =>
    intro k l hp hl
    obtain ⟨l, rfl⟩ : ∃ k, l = k + 1 := ⟨l - 1, by omega⟩
    have hT := TpC_n (p := s + k) (v := nuF f s k) h
    have h2 := h.2.1
    obtain ⟨g1, g2⟩ := TpC_i hT (show s + k < t by omega)
    conv => lhs; unfold L_X10_readNumber_5
    rw [hT.2.2.1, nN_8, if_neg (fun q => by have := (i3_le (by omega) (by omega)).mp q; omega), l10_0_0 hT.1]
    simp only [Option.bind_some]
    rw [n23_0 hT.1, xin_i3 (show s + k < 1000 by omega) (by omega), gd_t, xi_i3 (by omega), g1, isD_e g2]
    simp only [Option.bind_some, bz_0]
    conv => rhs; unfold runE
    cases c : isDg (f (s + k)) with
    | false =>
      rw [if_pos rfl, if_neg (fun q => by cases q.2), show s + k - s = k by omega]
    | true =>
      rw [if_neg (by decide), if_pos ⟨by omega, rfl⟩, l10_0_0 hT.1]
      simp only [Option.bind_some]
      rw [n23_0 hT.1, nN_8, xin_i3 (show s + k < 1000 by omega) (by omega), gd_t, xi_i3 (by omega), g1, nN_4]
      have e8 : gI (sI (nN M (s + k) (nuF f s k)) 10 0 4 (nuF f s k * 10 + (i3 (f (s + k)) - 48))) 10 0 8 = i3 (s + k) := by rw [gI_sI, if_neg (by omega)]; exact nN_8
      rw [e8, i3_add1, nN_s]
      exact ih (k + 1) l (by omega) (by omega)
end
