/-! ===== tokens: what is asked of them, both sides ===== -/
/-- which known word starts at s -/
def tkK (f : Nat → Nat) (t s : Nat) : Option Nat := if tkT f t s = 1 then lst (fun k => decide (wlG k = tkL f t s)) 23 else none
def sgB (f : Nat → Nat) (t s c : Nat) : Bool := decide (tkT f t s = 3) && decide (f s = c)
/-- the reference at token i, with fault v -/
def AtX (f : Nat → Nat) (t T i : Nat) (v : Int32) (Y : xT) (N : xM) : Prop := Lay N ∧ PWords N ∧ TkI f t T Y N ∧ tS f t T = t ∧ T ≤ t ∧ t ≤ 1000 ∧ (∀ j, j < t → f j ≤ 126) ∧ Y 88 T = 0 ∧ Y 89 T = i3 t ∧ Y 0 7 = i3 i ∧ i ≤ T ∧ Y 0 8 = v
section
variable {M M' M1 N N' N0 : xM} {X Y Z Y' : xT} {f : Nat → Nat} {fu l n m i j k t p q s e c w a b T d : Nat} {v u : Int32} {x y : Int64} {ls ls' : List Nat}
theorem tkK_lt (h : tkK f t s = some k) : k < 23 ∧ tkT f t s = 1 ∧ wlG k = tkL f t s := by
  unfold tkK at h
  by_cases c : tkT f t s = 1
  · rw [if_pos c] at h
    obtain ⟨h1, h2, h3⟩ := lst_some.mp h
    exact ⟨h1, c, of_decide_eq_true h2⟩
  · rw [if_neg c] at h; cases h
theorem tkK_is (hk : k < 23) : tkK f t s = some k ↔ tkT f t s = 1 ∧ wlG k = tkL f t s := by
  constructor
  · intro h
    exact (tkK_lt h).2
  · intro ⟨h1, h2⟩
    unfold tkK
    rw [if_pos h1]
    refine lst_some.mpr ⟨hk, decide_eq_true h2, fun j hj => decide_eq_false (fun q => ?_)⟩
    have := wl_ne ⟨j, by omega⟩ ⟨k, hk⟩ (q.trans h2.symm)
    injection this with this
    omega
theorem tkW_K : tkW f t s = match tkK f t s with | some k => i3 k | none => -1 := by
  unfold tkW tkK
  by_cases c : tkT f t s = 1
  · rw [if_pos c, if_pos c]
    unfold wdI
    rfl
  · rw [if_neg c, if_neg c]
theorem tkW_n (h : tkK f t s = none) : tkW f t s = -1 := by rw [tkW_K, h]
theorem tkW_s (h : tkK f t s = some k) : tkW f t s = i3 k := by rw [tkW_K, h]
/-! the class -/
theorem e_isSign (h : AtC f t s M) (hc : c ≤ 126) : F_X10_isSign fu 0 (i3 c) M = some (bz (sgB f t s c), M) := by
  obtain ⟨h1, h2, h3, h4, h5, h6, h7, h8, h9⟩ := h
  have hT : tkT f t s ≤ 4 := tkT_le
  unfold F_X10_isSign sgB
  rw [h5]
  by_cases c3 : tkT f t s = 3
  · have hst := (tk_s c3).1
    have hfs := (TpC_i h1 hst).2
    rw [if_neg (fun q => q (show i3 (tkT f t s) = 3 by rw [c3]; rfl)), h8 c3, decide_eq_true c3]
    by_cases cf : f s = c
    · rw [if_neg (fun q => q (by rw [cf])), xb_t, gd_t, decide_eq_true cf]; rfl
    · rw [if_pos (show ¬ i3 (f s) = i3 c from fun q => cf ((i3_eq (by omega) (by omega)).mp q)), xb_f, gd_t, decide_eq_false cf]; rfl
  · rw [if_pos (show ¬ i3 (tkT f t s) = 3 from fun q => c3 ((i3_eq (b := 3) (by omega) (by omega)).mp q)), xb_f, gd_t, decide_eq_false c3]; rfl
theorem e_fail (h : AtC f t s M) : F_X10_fail fu 0 (i3 k) M = some (0, sI M 10 0 9 (i3 (k + 16 * s))) := by
  unfold F_X10_fail
  rw [h.2.2.1, show (16 : Int32) = i3 16 from rfl, i3_mul, i3_add, xb_f, gd_t]
/-! the reference -/
theorem AtX_88 (h : AtX f t T i v Y N) : Y 88 i = i3 (tkT f t (tS f t i)) ∧ Y 89 i = i3 (tS f t i) := by
  obtain ⟨h1, h2, h3, h4, h5, h6, h7, h8, h9, h10, h11, h12⟩ := h
  by_cases c : i = T
  · rw [c, h4, h8, h9]
    have : tkT f t t = 0 := by unfold tkT; rw [if_neg (Nat.lt_irrefl t)]
    rw [this]
    exact ⟨rfl, rfl⟩
  · obtain ⟨a1, a2, a3, a4⟩ := h3 i (by omega)
    exact ⟨a2, a3⟩
theorem AtX_L (h : AtX f t T i v Y N) (hT : tkT f t (tS f t i) ≠ 0) : i < T ∧ gL N 21 2 i = tkV f t (tS f t i) := by
  obtain ⟨h1, h2, h3, h4, h5, h6, h7, h8, h9, h10, h11, h12⟩ := h
  by_cases c : i = T
  · have : tkT f t t = 0 := by unfold tkT; rw [if_neg (Nat.lt_irrefl t)]
    rw [c, h4] at hT
    exact absurd this hT
  · obtain ⟨a1, a2, a3, a4⟩ := h3 i (by omega)
    exact ⟨by omega, a4⟩
theorem t_isSign (h : AtX f t T i v Y N) (hv : v = 0) (hc : c ≤ 126) : F_X12_isSign fu 0 (i3 c) (mmb Y N) = some (bz (sgB f t (tS f t i) c), mmb Y N) := by
  obtain ⟨e88, e89⟩ := AtX_88 h
  have hL := AtX_L h
  obtain ⟨h1, h2, h3, h4, h5, h6, h7, h8, h9, h10, h11, h12⟩ := h
  have hT : tkT f t (tS f t i) ≤ 4 := tkT_le
  unfold F_X12_isSign sgB
  rw [m_0, h12, hv, if_neg (fun q => q rfl), gR_mmb, l12_0_4 h1]
  simp only [Option.bind_some, gN_mmb]
  rw [n20_88 h1, m_0, h10, xin_i3 (show i < 1002 by omega) (by omega), gd_t, xi_i3 (by omega), m_88, e88]
  by_cases c3 : tkT f t (tS f t i) = 3
  · obtain ⟨hst, hV⟩ := tk_s c3
    have hfs := h7 _ hst
    rw [if_neg (fun q => q (show i3 (tkT f t (tS f t i)) = 3 by rw [c3]; rfl)), gR_mmb, l12_0_6 h1]
    simp only [Option.bind_some, gN_mmb]
    rw [n21_2 h1, xin_i3 (show i < 1002 by omega) (by omega), gd_t, gL_mmb, (hL (by omega)).2, hV, decide_eq_true c3]
    by_cases cf : f (tS f t i) = c
    · rw [if_neg (fun q => q (cmp_0.mpr (by rw [cf]))), xb_t, gd_t, decide_eq_true cf]; rfl
    · rw [if_pos (fun q => cf (by
        have q := cmp_0.mp q
        rw [l_i64 (by omega), l_i64 (by omega)] at q
        exact inj64 (by omega) (by omega) q)), xb_f, gd_t, decide_eq_false cf]; rfl
  · rw [if_pos (show ¬ i3 (tkT f t (tS f t i)) = 3 from fun q => c3 ((i3_eq (b := 3) (by omega) (by omega)).mp q)), xb_f, gd_t, decide_eq_false c3]; rfl
theorem t_isSignF (h : AtX f t T i v Y N) (hv : v ≠ 0) : F_X12_isSign fu 0 u (mmb Y N) = some (0, mmb Y N) := by
  unfold F_X12_isSign
  rw [m_0, h.2.2.2.2.2.2.2.2.2.2.2, if_pos hv, xb_f, gd_t]
theorem t_isWord (h : AtX f t T i v Y N) (hv : v = 0) (hk : k < 23) : F_X12_isWord fu 0 (i3 k) (mmb Y N) = some (bz (decide (tkK f t (tS f t i) = some k)), mmb Y N) := by
  obtain ⟨e88, e89⟩ := AtX_88 h
  have hL := AtX_L h
  obtain ⟨h1, h2, h3, h4, h5, h6, h7, h8, h9, h10, h11, h12⟩ := h
  have hT : tkT f t (tS f t i) ≤ 4 := tkT_le
  unfold F_X12_isWord
  rw [m_0, h12, hv, if_neg (fun q => q rfl), gR_mmb, l12_0_4 h1]
  simp only [Option.bind_some, gN_mmb]
  rw [n20_88 h1, m_0, h10, xin_i3 (show i < 1002 by omega) (by omega), gd_t, xi_i3 (by omega), m_88, e88]
  by_cases c1 : tkT f t (tS f t i) = 1
  · obtain ⟨q1, q2, q3, q4, q5, q6, q7, q8, q9⟩ := tk_w c1
    obtain ⟨g1, g2, g3⟩ := wl_ok ⟨k, hk⟩
    have g3' : enc 37 (wlG k) = wdL.getD k 0 := g3
    rw [if_neg (fun q => q (show i3 (tkT f t (tS f t i)) = 1 by rw [c1]; rfl)), gR_mmb, l12_0_6 h1]
    simp only [Option.bind_some, gN_mmb]
    rw [n21_2 h1, xin_i3 (show i < 1002 by omega) (by omega), gd_t, gR_mmb, l12_0_9 h1]
    simp only [Option.bind_some, gN_mmb]
    rw [n21_3 h1, xin_i3 hk (by omega), gd_t, gL_mmb, gL_mmb, xi_i3 (by omega), (hL (by omega)).2, q6, h2 k hk, ← g3']
    have hb1 := enc_lt (b := 37) (by omega) 8 (tkL f t (tS f t i)) q8 q9
    have hb2 := enc_lt (b := 37) (by omega) 8 (wlG k) g1 g2
    have hp1 : (37 : Nat) ^ (tkL f t (tS f t i)).length ≤ 37 ^ 8 := Nat.pow_le_pow_right (by omega) q8
    have hp2 : (37 : Nat) ^ (wlG k).length ≤ 37 ^ 8 := Nat.pow_le_pow_right (by omega) g1
    have h378 : (37 : Nat) ^ 8 < 2 ^ 63 := by decide
    by_cases cf : wlG k = tkL f t (tS f t i)
    · rw [if_neg (fun q => q (cmp_0.mpr (by rw [cf]))), xb_t, gd_t, decide_eq_true ((tkK_is hk).mpr ⟨c1, cf⟩)]; rfl
    · rw [if_pos (fun q => cf (enc_inj (b := 37) (by omega) 8 _ _ g1 g2 q9 (inj64 (by omega) (by omega) (cmp_0.mp q).symm))), xb_f, gd_t, decide_eq_false (fun q => cf ((tkK_is hk).mp q).2)]; rfl
  · rw [if_pos (show ¬ i3 (tkT f t (tS f t i)) = 1 from fun q => c1 ((i3_eq (b := 1) (by omega) (by omega)).mp q)), xb_f, gd_t, decide_eq_false (fun q => c1 ((tkK_is hk).mp q).1)]; rfl
theorem t_isWordF (h : AtX f t T i v Y N) (hv : v ≠ 0) : F_X12_isWord fu 0 u (mmb Y N) = some (0, mmb Y N) := by
  unfold F_X12_isWord
  rw [m_0, h.2.2.2.2.2.2.2.2.2.2.2, if_pos hv, xb_f, gd_t]
/-- the known word here, told from a on -/
def wHr (o : Option Nat) (a n : Nat) : Int32 := match o with
  | some k => if a ≤ k ∧ k < a + n then i3 (k - a) else -1
  | none => -1
theorem t_wordHere (h : AtX f t T i v Y N) (hv : v = 0) (ha : a + n ≤ 23) (hf : 1100 < fu) : F_X12_wordHere fu 0 (i3 a) (i3 n) (mmb Y N) = some (wHr (tkK f t (tS f t i)) a n, mmb Y N) := by
  have g0 : wHr (tkK f t (tS f t i)) a 0 = -1 := by
    unfold wHr
    cases tkK f t (tS f t i) with
    | none => rfl
    | some k => exact if_neg (by omega)
  unfold F_X12_wordHere
  rw [← g0]
  refine lpc (fun l j x => L_X12_wordHere_5 fu l 0 (i3 a) (i3 n) x (i3 j) (mmb Y N)) (fun j => wHr (tkK f t (tS f t i)) a j) n _ ?_ ?_ fu 0 (by omega) (by omega)
  · intro l j hj
    show L_X12_wordHere_5 fu (l + 1) 0 (i3 a) (i3 n) (wHr (tkK f t (tS f t i)) a j) (i3 j) (mmb Y N) = L_X12_wordHere_5 fu l 0 (i3 a) (i3 n) (wHr (tkK f t (tS f t i)) a (j + 1)) (i3 (j + 1)) (mmb Y N)
    conv => lhs; unfold L_X12_wordHere_5
    rw [if_neg (fun q => by have := (i3_le (by omega) (by omega)).mp q; omega), i3_add, t_isWord h hv (show a + j < 23 by omega)]
    simp only [Option.bind_some, bz_0]
    rw [i3_add1]
    by_cases cf : tkK f t (tS f t i) = some (a + j)
    · rw [decide_eq_true cf, if_neg (by decide), cf]
      unfold wHr
      simp only
      rw [if_pos (show a ≤ a + j ∧ a + j < a + (j + 1) by omega), show a + j - a = j by omega]
    · rw [decide_eq_false cf, if_pos rfl]
      congr 1
      unfold wHr
      cases q : tkK f t (tS f t i) with
      | none => rfl
      | some k =>
        have : k ≠ a + j := fun z => cf (by rw [q, z])
        simp only
        by_cases c2 : a ≤ k ∧ k < a + j
        · rw [if_pos c2, if_pos (by omega)]
        · rw [if_neg c2, if_neg (by omega)]
  · intro l
    show L_X12_wordHere_5 fu (l + 1) 0 (i3 a) (i3 n) (wHr (tkK f t (tS f t i)) a n) (i3 n) (mmb Y N) = _
    conv => lhs; unfold L_X12_wordHere_5
    rw [if_pos (Int32.le_refl _)]
theorem t_wrong (h : AtX f t T i v Y N) (hv : v = 0) : F_X12_wrong fu 0 (i3 k) (mmb Y N) = some (mmb (up Y 0 8 (i3 (k + 16 * tS f t i))) N) := by
  obtain ⟨e88, e89⟩ := AtX_88 h
  obtain ⟨h1, h2, h3, h4, h5, h6, h7, h8, h9, h10, h11, h12⟩ := h
  unfold F_X12_wrong
  rw [m_0, h12, hv, if_neg (fun q => q rfl), gR_mmb, l12_0_5 h1]
  simp only [Option.bind_some, gN_mmb]
  rw [n20_89 h1, m_0, h10, xin_i3 (show i < 1002 by omega) (by omega), gd_t, xi_i3 (by omega), m_89, e89, show (16 : Int32) = i3 16 from rfl, i3_mul, i3_add, p_0]
theorem t_wrongF (h : AtX f t T i v Y N) (hv : v ≠ 0) : F_X12_wrong fu 0 u (mmb Y N) = some (mmb Y N) := by
  unfold F_X12_wrong
  rw [m_0, h.2.2.2.2.2.2.2.2.2.2.2, if_pos hv]
end
