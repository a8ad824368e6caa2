/-! ===== tokens: all of them, the reference ===== -/
/-- a word's number, of eight letters at most -/
def wvF (f : Nat → Nat) (s : Nat) : Nat → Int64
  | 0 => 0
  | k + 1 => if 8 ≤ k then wvF f s k else 37 * wvF f s k + Int32.toInt64 (i3 (f (s + k)) - 96)
def nvF (f : Nat → Nat) (s : Nat) : Nat → Int64
  | 0 => 0
  | k + 1 => if 4 ≤ k then nvF f s k else 10 * nvF f s k + Int32.toInt64 (i3 (f (s + k))) - 48
/-- what the reference writes down of the token at s -/
def tkV (f : Nat → Nat) (t s : Nat) : Int64 := if isLt (f s) = true then wvF f s (rnE isLt f t s - s) else if isDg (f s) = true then nvF f s (rnE isDg f t s - s) else Int32.toInt64 (i3 (f s))
/-- where token i starts -/
def tS (f : Nat → Nat) (t : Nat) : Nat → Nat
  | 0 => rnE isBl f t 0
  | i + 1 => rnE isBl f t (tkE f t (tS f t i))
/-- the tape of the reference -/
def TpT (f : Nat → Nat) (t : Nat) (Y : xT) : Prop := t ≤ 1000 ∧ Y 0 3 = i3 t ∧ ∀ i, i < t → Y 87 i = i3 (f i) ∧ (f i = 10 ∨ 32 ≤ f i ∧ f i ≤ 126)
/-- a world where longs of cell 2 may differ -/
def LnF (N N' : xM) : Prop := Lay N' ∧ N'.1 = N.1 ∧ (∀ c s k, gR N' c s k = gR N c s k) ∧ (∀ c s, gN N' c s = gN N c s) ∧ ∀ c s k, (c ≠ 21 ∨ s ≠ 2) → gL N' c s k = gL N c s k
/-- the first i tokens are written down -/
def TkI (f : Nat → Nat) (t i : Nat) (Y : xT) (N : xM) : Prop := ∀ j, j < i → tS f t j < t ∧ Y 88 j = i3 (tkT f t (tS f t j)) ∧ Y 89 j = i3 (tS f t j) ∧ gL N 21 2 j = tkV f t (tS f t j)
section
variable {M M' M1 N N' : xM} {X Y Z Y' : xT} {P : Nat → Bool} {f : Nat → Nat} {fu l n m i j k t p q s e c w a b : Nat} {v u : Int32} {x y : Int64} {kk : Nat → Int32 → Int32 → xM → Option xM}
theorem isL_t (hc : c ≤ 126) : F_X12_isLetter fu (i3 c) M = some (bz (isLt c), M) := by
  unfold F_X12_isLetter isLt
  by_cases h1 : 97 ≤ c
  · rw [if_neg (show ¬ i3 c < 97 from fun q => by have := (i3_lt (b := 97) (by omega) (by omega)).mp q; omega), decide_eq_true h1]
    by_cases h2 : c ≤ 122
    · rw [if_neg (show ¬ 122 < i3 c from fun q => by have := (i3_lt (a := 122) (by omega) (by omega)).mp q; omega), decide_eq_true h2, xb_t]; rfl
    · rw [if_pos (show 122 < i3 c from (i3_lt (a := 122) (by omega) (by omega)).mpr (by omega)), decide_eq_false h2, xb_f]; rfl
  · rw [if_pos (show i3 c < 97 from (i3_lt (b := 97) (by omega) (by omega)).mpr (by omega)), decide_eq_false h1, xb_f]; rfl
theorem isD_t (hc : c ≤ 126) : F_X12_isDigit fu (i3 c) M = some (bz (isDg c), M) := by
  unfold F_X12_isDigit isDg
  by_cases h1 : 48 ≤ c
  · rw [if_neg (show ¬ i3 c < 48 from fun q => by have := (i3_lt (b := 48) (by omega) (by omega)).mp q; omega), decide_eq_true h1]
    by_cases h2 : c ≤ 57
    · rw [if_neg (show ¬ 57 < i3 c from fun q => by have := (i3_lt (a := 57) (by omega) (by omega)).mp q; omega), decide_eq_true h2, xb_t]; rfl
    · rw [if_pos (show 57 < i3 c from (i3_lt (a := 57) (by omega) (by omega)).mpr (by omega)), decide_eq_false h2, xb_f]; rfl
  · rw [if_pos (show i3 c < 48 from (i3_lt (b := 48) (by omega) (by omega)).mpr (by omega)), decide_eq_false h1, xb_f]; rfl
theorem isS_t (hc : c ≤ 126) : F_X12_isSignOf fu (i3 c) M = some (bz (isSg c), M) := by
  have e : ∀ n, n ≤ 126 → (i3 c = i3 n ↔ c = n) := fun n hn => i3_eq (by omega) (by omega)
  unfold F_X12_isSignOf isSg
  by_cases h1 : c = 40
  · rw [if_pos (show i3 c = 40 from (e 40 (by omega)).mpr h1), xb_t, gd_t, h1]; rfl
  rw [if_neg (show ¬ i3 c = 40 from fun q => h1 ((e 40 (by omega)).mp q)), decide_eq_false h1]
  by_cases h2 : c = 41
  · rw [if_pos (show i3 c = 41 from (e 41 (by omega)).mpr h2), xb_t, gd_t, h2]; rfl
  rw [if_neg (show ¬ i3 c = 41 from fun q => h2 ((e 41 (by omega)).mp q)), decide_eq_false h2]
  by_cases h3 : c = 59
  · rw [if_pos (show i3 c = 59 from (e 59 (by omega)).mpr h3), xb_t, gd_t, h3]; rfl
  rw [if_neg (show ¬ i3 c = 59 from fun q => h3 ((e 59 (by omega)).mp q)), decide_eq_false h3]
  by_cases h4 : c = 61
  · rw [if_pos (show i3 c = 61 from (e 61 (by omega)).mpr h4), xb_t, gd_t, h4]; rfl
  rw [if_neg (show ¬ i3 c = 61 from fun q => h4 ((e 61 (by omega)).mp q)), decide_eq_false h4]
  by_cases h5 : c = 60
  · rw [if_pos (show i3 c = 60 from (e 60 (by omega)).mpr h5), xb_t, gd_t, h5]; rfl
  rw [if_neg (show ¬ i3 c = 60 from fun q => h5 ((e 60 (by omega)).mp q)), decide_eq_false h5]
  by_cases h6 : c = 43
  · rw [if_pos (show i3 c = 43 from (e 43 (by omega)).mpr h6), xb_t, gd_t, h6]; rfl
  rw [if_neg (show ¬ i3 c = 43 from fun q => h6 ((e 43 (by omega)).mp q)), decide_eq_false h6]
  by_cases h7 : c = 45
  · rw [if_pos (show i3 c = 45 from (e 45 (by omega)).mpr h7), xb_t, gd_t, h7]; rfl
  rw [if_neg (show ¬ i3 c = 45 from fun q => h7 ((e 45 (by omega)).mp q)), decide_eq_false h7]
  by_cases h8 : c = 42
  · rw [if_neg (fun q => q (show i3 c = 42 from (e 42 (by omega)).mpr h8)), xb_t, gd_t, h8]; rfl
  · rw [if_pos (show ¬ i3 c = 42 from fun q => h8 ((e 42 (by omega)).mp q)), xb_f, gd_t, decide_eq_false h8]; rfl
theorem TpT_i (h : TpT f t Y) (hi : i < t) : Y 87 i = i3 (f i) ∧ f i ≤ 126 := ⟨(h.2.2 i hi).1, by have := (h.2.2 i hi).2; omega⟩
theorem LnF_rf (h : Lay N) : LnF N N := ⟨h, rfl, fun _ _ _ => rfl, fun _ _ => rfl, fun _ _ _ _ => rfl⟩
theorem LnF_s (h : LnF N N') : LnF N (sL N' 21 2 k x) := ⟨h.1, h.2.1, h.2.2.1, h.2.2.2.1, fun c s i q => by
  show (if c = 21 ∧ s = 2 ∧ i = k then x else gL N' c s i) = gL N c s i
  rw [if_neg (by omega)]; exact h.2.2.2.2 c s i q⟩
/-- a token's type and value written down -/
theorem t_cut218 (h : Lay N) (hi : i < 1002) (hs : s ≤ e) (he : e ≤ 1000) : J_X12_cutAll_218 fu kk 0 (i3 i) (i3 e) (i3 s) x (mmb Y N) = kk 0 (i3 (i + 1)) (i3 e) (mmb (up Y 88 i (i3 (if 4 < e - s then 4 else 2))) (sL N 21 2 i x)) := by
  unfold J_X12_cutAll_218
  rw [i3_sub hs]
  have hN : ∀ u, Lay (mmb (up Y 88 i u) N) := fun u => h
  by_cases c : 4 < e - s
  · rw [if_neg (show ¬ i3 (e - s) ≤ 4 from fun q => by have := (i3_le (b := 4) (by omega) (by omega)).mp q; omega), if_pos c, gR_mmb, l12_0_4 h]
    simp only [Option.bind_some, gN_mmb]
    rw [n20_88 h, xin_i3 hi (by omega), gd_t, xi_i3 (by omega), p_88, gR_mmb, l12_0_6 h]
    simp only [Option.bind_some, gN_mmb]
    rw [n21_2 h, xin_i3 hi (by omega), gd_t, i3_add1]
    rfl
  · rw [if_pos (show i3 (e - s) ≤ 4 from (i3_le (b := 4) (by omega) (by omega)).mpr (by omega)), if_neg c, gR_mmb, l12_0_4 h]
    simp only [Option.bind_some, gN_mmb]
    rw [n20_88 h, xin_i3 hi (by omega), gd_t, xi_i3 (by omega), p_88, gR_mmb, l12_0_6 h]
    simp only [Option.bind_some, gN_mmb]
    rw [n21_2 h, xin_i3 hi (by omega), gd_t, i3_add1]
    rfl
theorem t_cut129 (h : Lay N) (hi : i < 1002) (hs : s ≤ e) (he : e ≤ 1000) : J_X12_cutAll_129 fu kk 0 (i3 i) (i3 e) (i3 s) x (mmb Y N) = kk 0 (i3 (i + 1)) (i3 e) (mmb (up Y 88 i (i3 (if 8 < e - s then 4 else 1))) (sL N 21 2 i x)) := by
  unfold J_X12_cutAll_129
  rw [i3_sub hs]
  by_cases c : 8 < e - s
  · rw [if_neg (show ¬ i3 (e - s) ≤ 8 from fun q => by have := (i3_le (b := 8) (by omega) (by omega)).mp q; omega), if_pos c, gR_mmb, l12_0_4 h]
    simp only [Option.bind_some, gN_mmb]
    rw [n20_88 h, xin_i3 hi (by omega), gd_t, xi_i3 (by omega), p_88, gR_mmb, l12_0_6 h]
    simp only [Option.bind_some, gN_mmb]
    rw [n21_2 h, xin_i3 hi (by omega), gd_t, i3_add1]
    rfl
  · rw [if_pos (show i3 (e - s) ≤ 8 from (i3_le (b := 8) (by omega) (by omega)).mpr (by omega)), if_neg c, gR_mmb, l12_0_4 h]
    simp only [Option.bind_some, gN_mmb]
    rw [n20_88 h, xin_i3 hi (by omega), gd_t, xi_i3 (by omega), p_88, gR_mmb, l12_0_6 h]
    simp only [Option.bind_some, gN_mmb]
    rw [n21_2 h, xin_i3 hi (by omega), gd_t, i3_add1]
    rfl
theorem t_cut70 (h : Lay N) (hT : TpT f t Y) (hi : i < 1002) : ∀ m k l, s + k + m = t → m < l → L_X12_cutAll_70 fu kk l 0 (i3 i) (i3 (s + k)) (i3 s) (wvF f s k) (mmb Y N) =
    kk 0 (i3 (i + 1)) (i3 (runE isLt f t m (s + k))) (mmb (up Y 88 i (i3 (if 8 < runE isLt f t m (s + k) - s then 4 else 1))) (sL N 21 2 i (wvF f s (runE isLt f t m (s + k) - s)))) := by
  have ht := hT.1
  intro m
  induction m with
  | zero =>
    intro k l hk hl
    obtain ⟨l, rfl⟩ : ∃ k, l = k + 1 := ⟨l - 1, by omega⟩
    conv => lhs; unfold L_X12_cutAll_70
    rw [m_0, hT.2.1, if_pos ((i3_le (by omega) (by omega)).mpr (by omega)), t_cut129 h hi (by omega) (by omega)]
    show kk 0 (i3 (i + 1)) (i3 (s + k)) (mmb (up Y 88 i (i3 (if 8 < s + k - s then 4 else 1))) (sL N 21 2 i (wvF f s k))) = kk 0 (i3 (i + 1)) (i3 (s + k)) (mmb (up Y 88 i (i3 (if 8 < s + k - s then 4 else 1))) (sL N 21 2 i (wvF f s (s + k - s))))
    rw [show s + k - s = k by omega]
  | succ m ih =>
    intro k l hk hl
    obtain ⟨l, rfl⟩ : ∃ k, l = k + 1 := ⟨l - 1, by omega⟩
    obtain ⟨g1, g2⟩ := TpT_i hT (show s + k < t by omega)
    conv => lhs; unfold L_X12_cutAll_70
    rw [m_0, hT.2.1, if_neg (fun q => by have := (i3_le (by omega) (by omega)).mp q; omega), gR_mmb, l12_0_1 h]
    simp only [Option.bind_some, gN_mmb]
    rw [n20_87 h, xin_i3 (show s + k < 1000 by omega) (by omega), gd_t, xi_i3 (by omega), m_87, g1, isL_t g2]
    simp only [Option.bind_some, bz_0]
    conv => rhs; unfold runE
    cases c : isLt (f (s + k)) with
    | false =>
      rw [if_pos rfl, if_neg (fun q => by cases q.2), t_cut129 h hi (by omega) (by omega), show s + k - s = k by omega]
    | true =>
      have hr := isLt_r c
      rw [if_neg (by decide), if_pos (show s + k < t ∧ true = true from ⟨by omega, rfl⟩), i3_sub (show s ≤ s + k by omega), show s + k - s = k by omega, i3_add1]
      have ih' := ih (k + 1) l (by omega) (by omega)
      by_cases c8 : 8 ≤ k
      · rw [if_pos (show (8 : Int32) ≤ i3 k from (i3_le (a := 8) (by omega) (by omega)).mpr c8)]
        have ev : wvF f s (k + 1) = wvF f s k := by show (if 8 ≤ k then _ else _) = _; rw [if_pos c8]
        rw [ev] at ih'
        exact ih'
      · have ev : wvF f s (k + 1) = 37 * wvF f s k + Int32.toInt64 (i3 (f (s + k)) - 96) := by show (if 8 ≤ k then _ else _) = _; rw [if_neg c8]
        rw [if_neg (show ¬ (8 : Int32) ≤ i3 k from fun q => c8 ((i3_le (a := 8) (by omega) (by omega)).mp q)), gR_mmb, l12_0_1 h]
        simp only [Option.bind_some, gN_mmb]
        rw [n20_87 h, xin_i3 (show s + k < 1000 by omega) (by omega), gd_t, m_87, g1]
        unfold F_X12_rank
        rw [isL_t g2, c]
        simp only [Option.bind_some]
        rw [if_neg (by decide)]
        simp only [Option.bind_some]
        rw [← ev]
        exact ih'
theorem t_cut159 (h : Lay N) (hT : TpT f t Y) (hi : i < 1002) : ∀ m k l, s + k + m = t → m < l → L_X12_cutAll_159 fu kk l 0 (i3 i) (i3 (s + k)) (i3 s) (nvF f s k) (mmb Y N) =
    kk 0 (i3 (i + 1)) (i3 (runE isDg f t m (s + k))) (mmb (up Y 88 i (i3 (if 4 < runE isDg f t m (s + k) - s then 4 else 2))) (sL N 21 2 i (nvF f s (runE isDg f t m (s + k) - s)))) := by
  have ht := hT.1
  intro m
  induction m with
  | zero =>
    intro k l hk hl
    obtain ⟨l, rfl⟩ : ∃ k, l = k + 1 := ⟨l - 1, by omega⟩
    conv => lhs; unfold L_X12_cutAll_159
    rw [m_0, hT.2.1, if_pos ((i3_le (by omega) (by omega)).mpr (by omega)), t_cut218 h hi (by omega) (by omega)]
    show kk 0 (i3 (i + 1)) (i3 (s + k)) (mmb (up Y 88 i (i3 (if 4 < s + k - s then 4 else 2))) (sL N 21 2 i (nvF f s k))) = kk 0 (i3 (i + 1)) (i3 (s + k)) (mmb (up Y 88 i (i3 (if 4 < s + k - s then 4 else 2))) (sL N 21 2 i (nvF f s (s + k - s))))
    rw [show s + k - s = k by omega]
  | succ m ih =>
    intro k l hk hl
    obtain ⟨l, rfl⟩ : ∃ k, l = k + 1 := ⟨l - 1, by omega⟩
    obtain ⟨g1, g2⟩ := TpT_i hT (show s + k < t by omega)
    conv => lhs; unfold L_X12_cutAll_159
    rw [m_0, hT.2.1, if_neg (fun q => by have := (i3_le (by omega) (by omega)).mp q; omega), gR_mmb, l12_0_1 h]
    simp only [Option.bind_some, gN_mmb]
    rw [n20_87 h, xin_i3 (show s + k < 1000 by omega) (by omega), gd_t, xi_i3 (by omega), m_87, g1, isD_t g2]
    simp only [Option.bind_some, bz_0]
    conv => rhs; unfold runE
    cases c : isDg (f (s + k)) with
    | false =>
      rw [if_pos rfl, if_neg (fun q => by cases q.2), t_cut218 h hi (by omega) (by omega), show s + k - s = k by omega]
    | true =>
      rw [if_neg (by decide), if_pos (show s + k < t ∧ true = true from ⟨by omega, rfl⟩), i3_sub (show s ≤ s + k by omega), show s + k - s = k by omega, i3_add1]
      have ih' := ih (k + 1) l (by omega) (by omega)
      by_cases c8 : 4 ≤ k
      · rw [if_pos (show (4 : Int32) ≤ i3 k from (i3_le (a := 4) (by omega) (by omega)).mpr c8)]
        have ev : nvF f s (k + 1) = nvF f s k := by show (if 4 ≤ k then _ else _) = _; rw [if_pos c8]
        rw [ev] at ih'
        exact ih'
      · have ev : nvF f s (k + 1) = 10 * nvF f s k + Int32.toInt64 (i3 (f (s + k))) - 48 := by show (if 4 ≤ k then _ else _) = _; rw [if_neg c8]
        rw [if_neg (show ¬ (4 : Int32) ≤ i3 k from fun q => c8 ((i3_le (a := 4) (by omega) (by omega)).mp q)), gR_mmb, l12_0_1 h]
        simp only [Option.bind_some, gN_mmb]
        rw [n20_87 h, xin_i3 (show s + k < 1000 by omega) (by omega), gd_t, m_87, g1, ← ev]
        exact ih'
end
