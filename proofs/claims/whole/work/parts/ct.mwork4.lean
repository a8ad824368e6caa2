/-! ===== a WORK, read: the reference, its loop ===== -/
section
variable {M M' M1 N : xM} {X Y Y' Y1 : xT} {f : Nat → Nat} {fu l t T n i j k d s x a b w F e m g : Nat} {c ls : List Nat} {q : Nat × Nat} {u v y0 : Int32} {nm : Nat → List Nat} {D : Nat → Nat → Nat} {C : xC}
/-- the bounds of a work's numbers -/
def DOk (n : Nat) (D : Nat → Nat → Nat) : Prop := ∀ j, j < n → D j 0 < 6 ∧ D j 3 ≤ 255
theorem acO_some (h : acO f t s = some k) : k < 6 ∧ tkK f t s = some (k + 6) := by
  unfold acO at h
  cases e : tkK f t s with
  | none => rw [e] at h; cases h
  | some m =>
    rw [e] at h
    have h' : (if 6 ≤ m ∧ m ≤ 11 then some (m - 6) else none) = some k := h
    by_cases c : 6 ≤ m ∧ m ≤ 11
    · rw [if_pos c] at h'
      injection h' with h'
      exact ⟨by omega, by congr 1; omega⟩
    · rw [if_neg c] at h'; cases h'
theorem wHr_ac : wHr (tkK f t s) 6 6 = match acO f t s with | some k => i3 k | none => -1 := by
  unfold wHr acO
  cases e : tkK f t s with
  | none => rfl
  | some m =>
    show (if 6 ≤ m ∧ m < 6 + 6 then i3 (m - 6) else -1) = match (if 6 ≤ m ∧ m ≤ 11 then some (m - 6) else none) with | some k => i3 k | none => -1
    by_cases c : 6 ≤ m ∧ m ≤ 11
    · rw [if_pos (show 6 ≤ m ∧ m < 6 + 6 by omega), if_pos c]
    · rw [if_neg (show ¬ (6 ≤ m ∧ m < 6 + 6) by omega), if_neg c]
theorem tkNu_le : (tkNu f t i k d).2.2 ≤ d := by
  unfold tkNu
  by_cases c : tkT f t (tS f t i) = 2
  · rw [if_pos c]
    by_cases c2 : k ≤ nuN f (tS f t i) (tkE f t (tS f t i) - tS f t i) ∧ nuN f (tS f t i) (tkE f t (tS f t i) - tS f t i) ≤ d
    · rw [if_pos c2]; exact c2.2
    · rw [if_neg c2]; exact Nat.zero_le _
  · rw [if_neg c]; exact Nat.zero_le _
theorem wlNum_le : (wlNum f t i).2.2.2 ≤ 255 := by
  unfold wlNum
  by_cases c : (tkNu f t i 0 3).1 = 0
  · rw [if_pos c]
    by_cases c2 : (tkNu f t (tkNu f t i 0 3).2.1 0 255).1 = 0
    · rw [if_pos c2]; exact tkNu_le
    · rw [if_neg c2]; exact Nat.zero_le _
  · rw [if_neg c]; exact Nat.zero_le _
theorem wlRest_ok : (wlRest f t F nm k i).2.2.1 = k ∧ (wlRest f t F nm k i).2.2.2.2.2 ≤ 255 := by
  unfold wlRest
  by_cases c : k ≤ 3
  · rw [if_pos c]
    by_cases c2 : (wlNam f t F nm i).1 = 0
    · rw [if_pos c2]
      by_cases c3 : k = 0
      · rw [if_pos c3]; exact ⟨rfl, wlNum_le⟩
      · rw [if_neg c3]; exact ⟨rfl, Nat.zero_le _⟩
    · rw [if_neg c2]; exact ⟨rfl, Nat.zero_le _⟩
  · rw [if_neg c]; exact ⟨rfl, Nat.zero_le _⟩
theorem wlLn_ok (h0 : (wlLn f t F nm n i).1 = 0) : (wlLn f t F nm n i).2.2.1 < 6 ∧ (wlLn f t F nm n i).2.2.2.2.2 ≤ 255 := by
  unfold wlLn at h0 ⊢
  cases e : acO f t (tS f t i) with
  | none =>
    rw [e] at h0
    have h0' : 1 + 16 * tS f t i = 0 := h0
    omega
  | some k =>
    have hk := (acO_some e).1
    show (if n < 24 then wlRest f t F nm k (i + 1) else (5 + 16 * tS f t i, i, 0, 0, 0, 0)).2.2.1 < 6 ∧ (if n < 24 then wlRest f t F nm k (i + 1) else (5 + 16 * tS f t i, i, 0, 0, 0, 0)).2.2.2.2.2 ≤ 255
    by_cases c : n < 24
    · rw [if_pos c]
      have := wlRest_ok (f := f) (t := t) (F := F) (nm := nm) (k := k) (i := i + 1)
      exact ⟨by rw [this.1]; exact hk, this.2⟩
    · rw [if_neg c]; exact ⟨Nat.zero_lt_succ 5, Nat.zero_le _⟩
theorem dUp_ok (h : DOk n D) {p : Nat × Nat × Nat × Nat} (h0 : p.1 < 6) (h3 : p.2.2.2 ≤ 255) : DOk (n + 1) (dUp D n p) := fun j hj => by
  unfold dUp
  by_cases c : j = n
  · rw [if_pos c, if_pos rfl, if_pos c, if_neg (by decide), if_neg (by decide), if_neg (by decide)]; exact ⟨h0, h3⟩
  · rw [if_neg c, if_neg c]; exact h j (by omega)
theorem wrP_ok : ∀ m n D i, DOk n D → DOk (wrP f t F nm m n D i).2.2.1 (wrP f t F nm m n D i).2.2.2 := by
  intro m
  induction m with
  | zero => intro n D i h; exact h
  | succ m ih =>
    intro n D i h
    unfold wrP
    by_cases c : tkT f t (tS f t i) = 0
    · rw [if_pos c]; exact h
    · rw [if_neg c]
      by_cases c2 : (wlLn f t F nm n i).1 = 0
      · rw [if_pos c2]
        by_cases c3 : (tkSg f t (wlLn f t F nm n i).2.1 59).1 = 0
        · rw [if_pos c3]
          obtain ⟨q1, q2⟩ := wlLn_ok c2
          exact ih _ _ _ (dUp_ok h q1 q2)
        · rw [if_neg c3]; exact h
      · rw [if_neg c2]; exact h
theorem MkR_up (h : MkR n D Y) (ho : ∀ j, j < 100 + 4 * n → Y' 92 j = Y 92 j) {p : Nat × Nat × Nat × Nat} (h0 : Y' 92 (100 + 4 * n) = i3 p.1) (h1 : Y' 92 (100 + 4 * n + 1) = i3 p.2.1) (h2 : Y' 92 (100 + 4 * n + 2) = i3 p.2.2.1) (h3 : Y' 92 (100 + 4 * n + 3) = i3 p.2.2.2) : MkR (n + 1) (dUp D n p) Y' := by
  intro j hj e he
  unfold dUp
  by_cases z : j = n
  · subst z
    rw [if_pos rfl]
    rcases (show e = 0 ∨ e = 1 ∨ e = 2 ∨ e = 3 by omega) with rfl | rfl | rfl | rfl
    · exact h0
    · exact h1
    · exact h2
    · exact h3
  · rw [if_neg z, ho _ (by omega)]
    exact h j (by omega) e he
theorem MkR_x (h : MkR n D Y) (hF : XnF Y Y') : MkR n D Y' := fun j hj e he => (hF 92 _ (by omega)).trans (h j hj e he)
/-- the head: a fault, or the end -/
theorem wl11_F (h : LnX f t T q Y N) (h0 : q.1 ≠ 0) : L_X12_work_11 fu (l + 1) 0 u (mmb Y N) = J_X12_work_98 fu 0 u (mmb Y N) := by
  conv => lhs; unfold L_X12_work_11
  rw [if_pos (by rw [x8_0 h]; exact h0)]
theorem wl11_0 (h : LnX f t T (0, i) Y N) (hf : 1100 < fu) (hn : n ≤ 24) : L_X12_work_11 fu (l + 1) 0 (i3 n) (mmb Y N) = if tkT f t (tS f t i) = 0 then J_X12_work_98 fu 0 (i3 n) (mmb Y N) else match acO f t (tS f t i) with
    | some k => if n < 24 then (F_X12_readWork fu 0 (i3 (100 + 4 * n)) (i3 k) (mmb (up Y 0 7 (i3 (i + 1))) N)).bind fun p_4 => (F_X12_takeSign fu 0 59 p_4).bind fun p_5 => L_X12_work_11 fu l 0 (i3 (n + 1)) p_5
        else (F_X12_wrong fu 0 5 (mmb Y N)).bind fun p_6 => (F_X12_takeSign fu 0 59 p_6).bind fun p_7 => L_X12_work_11 fu l 0 (i3 n) p_7
    | none => (F_X12_wrong fu 0 1 (mmb Y N)).bind fun p_8 => (F_X12_takeSign fu 0 59 p_8).bind fun p_9 => L_X12_work_11 fu l 0 (i3 n) p_9 := by
  have hL := h.1.1
  have h7 : Y 0 7 = i3 i := h.1.2.2.2.2.2.2.2.2.2.1
  have hi : i ≤ T := h.1.2.2.2.2.2.2.2.2.2.2.1
  have hTt := h.1.2.2.2.2.1
  have ht := h.1.2.2.2.2.2.1
  obtain ⟨e88', e89⟩ := AtX_88 h.1
  have e88 : Y 88 i = i3 (tkT f t (tS f t i)) := e88'
  have hT5 : tkT f t (tS f t i) ≤ 4 := tkT_le
  have ew : F_X12_wordHere fu 0 6 6 (mmb Y N) = some (wHr (tkK f t (tS f t i)) 6 6, mmb Y N) := t_wordHere (a := 6) (n := 6) h.1 rfl (by omega) hf
  conv => lhs; unfold L_X12_work_11
  rw [if_neg (by rw [x8_0 h]; exact fun z => z rfl), gR_mmb, l12_0_4 hL]
  simp only [Option.bind_some, gN_mmb]
  rw [n20_88 hL, m_0, h7, xin_i3 (show i < 1002 by omega) (by omega), gd_t, xi_i3 (by omega), m_88, e88]
  by_cases c0 : tkT f t (tS f t i) = 0
  · rw [if_pos (show i3 (tkT f t (tS f t i)) = 0 by rw [c0]; rfl), if_pos c0]
  · rw [if_neg (show ¬ i3 (tkT f t (tS f t i)) = 0 from fun z => c0 ((i3_eq (b := 0) (by omega) (by omega)).mp z)), if_neg c0, ew, wHr_ac]
    simp only [Option.bind_some]
    cases e : acO f t (tS f t i) with
    | none =>
      rw [if_neg (show ¬ (0 : Int32) ≤ -1 by decide)]
    | some k =>
      have hk := (acO_some e).1
      simp only
      rw [if_pos (show (0 : Int32) ≤ i3 k from ge0 (by omega))]
      by_cases c : n < 24
      · rw [if_pos (show ¬ i3 n = 24 from fun z => by have := (i3_eq (b := 24) (by omega) (by omega)).mp z; omega), if_pos c, x_7 h, show (4 : Int32) * i3 n = i3 (4 * n) from i3_mul 4 n, show (100 : Int32) + i3 (4 * n) = i3 (100 + 4 * n) from i3_add 100 (4 * n), i3_add1]
      · rw [if_neg (show ¬ ¬ i3 n = 24 from fun z => z (by rw [show n = 24 by omega]; rfl)), if_neg c]
end
