/-! ===== a line of a work, in the reference ===== -/
/-- what a line does, and whether it can be (a cut in it is no fault of it) -/
def didT (C : xC) (R : Nat → Int32) (a : Nat) (nt : Bool) (D : xT) (k : Nat) (x y v : Int32) : Bool × xT :=
  if k = 0 then (! decide ((writeT C R a nt D x y v).1 = -1), (writeT C R a nt D x y v).2)
  else if k = 1 then (! decide ((removeT C R a nt D x).1 = -1), (removeT C R a nt D x).2)
  else if k = 2 then openT C D x
  else if k = 3 then closeT C D x
  else if k = 4 then (! decide ((commitT nt D (C 0 0) (C 0 1)).1 = -1), (commitT nt D (C 0 0) (C 0 1)).2)
  else (! decide ((collectT nt D (C 0 0) (C 0 1)).1 = -1), (collectT nt D (C 0 0) (C 0 1)).2)
section
variable {M : xM} {D E X Y Z T P X' E' E0 E'' X'' : xT} {C : xC} {R N : Nat → Int32} {fu b d L L' s o t k n m i j p q f l w nb nw a at' r g : Nat} {x y z v u c : Int32} {nt : Bool}
theorem did_2 (hk : k < 6) : (didT C R a nt D k x y v).2 = (actT C R a nt D (i3 k) x y v).2 := by
  unfold didT actT
  match k, hk with
  | 0, _ => rfl
  | 1, _ => rfl
  | 2, _ => rfl
  | 3, _ => rfl
  | 4, _ => rfl
  | 5, _ => rfl
theorem Inv_did (hB : CB C) (hI : Inv C L D) (hV : InV C D) (hL : L + 8 < 1000000) (nt : Bool) : Inv C (L + 8) (didT C R a nt D k x y v).2 ∧ InV C (didT C R a nt D k x y v).2 := by
  have c5 := hB.2.2.2.1
  unfold didT
  by_cases k0 : k = 0
  · rw [if_pos k0]; exact Inv_write hB hI hV hL nt
  rw [if_neg k0]
  by_cases k1 : k = 1
  · rw [if_pos k1]; exact Inv_remove hB hI hV hL nt
  rw [if_neg k1]
  by_cases k2 : k = 2
  · rw [if_pos k2]; exact ⟨Inv_le (Inv_open hI c5) (by omega) (by omega), InV_open hV⟩
  rw [if_neg k2]
  by_cases k3 : k = 3
  · rw [if_pos k3]; exact ⟨Inv_le (Inv_close hI c5) (by omega) (by omega), InV_close hV⟩
  rw [if_neg k3]
  by_cases k4 : k = 4
  · rw [if_pos k4]; exact ⟨Inv_le (Inv_commit hB hI (by omega) nt) (by omega) (by omega), InV_commit hB hI hV (by omega) nt⟩
  rw [if_neg k4]
  exact ⟨Inv_le (Inv_collect hB hI hV nt) (by omega) (by omega), InV_collect hB hI hV nt⟩
theorem xb_t : xbool (1 : Int32) = true := by decide
theorem xb_f : xbool (0 : Int32) = true := by decide
theorem fm92 (h : Fm b X X') : X' 92 k = X 92 k := h.1 92 k (by omega) (by decide) (by decide) (by decide) (by decide)
theorem Fm_rule (h : Fm b X X') (hU : RuleAs C R X) : RuleAs C R X' := RuleAs_fm hU (h.1 90 4 (by omega) (by decide) (by decide) (by decide) (by decide)) (fun k => h.1 91 k (by omega) (by decide) (by decide) (by decide) (by decide))
theorem Po_open (hR : Rel C b E X') (hM : MCfg C X) (hL : X 0 22 = i3 b → Lk D X) (h1 : ∀ j k, j ≠ 95 → X' j k = X j k) (h2 : ∀ k, k < b ∨ b + 502 ≤ k → X' 95 k = X 95 k) (h6 : X' 95 (b + 6) = X 95 (b + 6)) (h5 : E 15 5 = D 15 5) (h7 : E 15 6 = D 15 6) (h24 : E 24 0 = D 24 0) : Po nt b C D E X X' :=
  ⟨hR, MCfg_90 hM (fun k' => h1 90 k' (by decide)), Fm_95 h1 h2, fun e => by
    rw [h1 0 22 (by decide)] at e
    have := Lk_cg (hL e) h5 h7
    exact ⟨(h1 0 20 (by decide)).trans this.1, (h1 0 21 (by decide)).trans this.2⟩, Pc_rf h6 h24⟩
theorem open_lo (h : j ≠ 11) : (openT C D x).2 j k = D j k := by
  unfold openT
  split
  · exact up_ne (by omega)
  · rfl
theorem close_lo (h : j ≠ 11) (h2 : j ≠ 12) (h3 : j ≠ 9) (h4 : j ≠ 14) : (closeT C D x).2 j k = D j k := by
  unfold closeT
  split
  · simp only
    split
    · exact up_ne (by omega)
    · rw [unmapT_lo (by omega), up_ne (by omega), up_ne (by omega)]
  · rfl
theorem Po_open2 (h : Lay M) (hM : MCfg C X) (hb : b ≤ 2140) (hB : CB C) (hR : Rel C b D X) (hI : Inv C L D) (hLk : X 0 22 = i3 b → Lk D X) (hf : 100 < fu) :
    ∃ X', F_X12_opens fu 0 (i3 b) x 1 (mmb X M) = some (bz (openT C D x).1, mmb X' M) ∧ Po nt b C D (openT C D x).2 X X' := by
  obtain ⟨X', k1, k2, k3, k4, k5⟩ := t_open (fu := fu) (M := M) (x := x) h hM hb hB hR hI hf
  exact ⟨X', k1, Po_open k2 hM hLk k3 k4 k5 (open_lo (by omega)) (open_lo (by omega)) (open_lo (by omega))⟩
theorem Po_close2 (h : Lay M) (hM : MCfg C X) (hb : b ≤ 2140) (hB : CB C) (hR : Rel C b D X) (hI : Inv C L D) (hLk : X 0 22 = i3 b → Lk D X) (hf : 100 < fu) :
    ∃ X', F_X12_opens fu 0 (i3 b) x 0 (mmb X M) = some (bz (closeT C D x).1, mmb X' M) ∧ Po nt b C D (closeT C D x).2 X X' := by
  obtain ⟨X', k1, k2, k3, k4, k5⟩ := t_close (fu := fu) (M := M) (x := x) h hM hb hB hR hI hf
  exact ⟨X', k1, Po_open k2 hM hLk k3 k4 k5 (close_lo (by omega) (by omega) (by omega) (by omega)) (close_lo (by omega) (by omega) (by omega) (by omega)) (close_lo (by omega) (by omega) (by omega) (by omega))⟩
theorem t_does (h : Lay M) (hM : MCfg C X) (hb : b ≤ 2140) (hB : CB C) (hU : RuleAs C R X) (hR : Rel C b D X) (hI : Inv C L D) (hV : InV C D) (hL : L + 8 < 1000000) (hLk : X 0 22 = i3 b → Lk D X) (hf : 1100 < fu) (hg : g ≤ 255) (hk : k < 6) (hq : q + 3 < 200)
    (l0 : X 92 q = i3 k) (l1 : X 92 (q + 1) = x) (l2 : X 92 (q + 2) = y) (l3 : X 92 (q + 3) = i3 g) (nt : Bool) :
    ∃ X', F_X12_doesLine fu 0 (i3 b) (i3 q) (mmb X M) = some (bz (didT C R a nt D k x y (i3 g)).1, mmb X' M) ∧ Po nt b C D (didT C R a nt D k x y (i3 g)).2 X X' := by
  have hans : ∀ w : Int32, ∀ Z : xM, (if w = -1 then (some ((0 : Int32), Z)) else some (1, Z)) = some (bz (! decide (w = -1)), Z) := by
    intro w Z
    by_cases c : w = -1
    · rw [if_pos c, decide_eq_true c]; rfl
    · rw [if_neg c, decide_eq_false c]; rfl
  unfold F_X12_doesLine didT
  simp (disch := first | assumption | omega) only [l12_0_1, l12_0_4, l12_0_5, l12_0_6, l12_0_9, l12_0_10, l12_0_11, l12_0_13, l12_0_14, l12_0_15, l12_0_16, l12_0_17, l12_0_18, l12_0_19, l12_0_23, l12_0_24, l12_0_25, l12_0_27, n20_83, n20_84, n20_85, n20_86, n20_87, n20_88, n20_89, n20_90, n20_91, n20_92, n20_93, n20_94, n20_95, n20_96, n20_97, n20_98, n21_2, n21_3, n21_4, n21_5, n21_6, n22_20, m_0, m_1, m_87, m_88, m_89, m_90, m_91, m_92, m_93, m_94, m_95, m_96, m_97, m_98, p_0, p_1, p_87, p_88, p_89, p_90, p_91, p_92, p_93, p_94, p_95, p_96, p_97, p_98, gR_mmb, gN_mmb, gL_mmb, i3_add1, i3_add, i3_mul, i3_addl, i3_mull, i3_ladd, i3_lmul, i3_div4, i3_le, i3_lt, i3_eq, i3_lel, i3_lle, i3_ltl, i3_llt, i3_eql, i3_leq, i3_nl, i3_0l, i3_nn, n1_lt, n1_le, xi_i3, xin_i3, xi_lit, xin_lit, xb0, xb1, gd_t, nz4, Option.bind_some, gR_emb, gN_emb, gL_emb, ↓reduceIte, if_true, if_false, not_true_eq_false, not_false_eq_true, eq_self, Nat.not_lt_zero, Nat.zero_le, true_or, or_true, false_or, or_false, true_and, and_true, false_and, and_false, l0, l1, l2, l3]
  by_cases k0 : k = 0
  · rw [if_pos k0, if_pos k0]
    obtain ⟨X', w1, w2⟩ := t_writes (fu := fu) (M := M) (x := x) (y := y) (a := a) h hM hb hB hU hR hI hV hL hLk hf hg nt
    rw [w1]
    exact ⟨X', hans _ _, w2⟩
  rw [if_neg k0, if_neg k0]
  by_cases k1 : k = 1
  · rw [if_pos k1, if_pos k1]
    obtain ⟨X', w1, w2⟩ := t_removes (fu := fu) (M := M) (x := x) (a := a) h hM hb hB hU hR hI hV hL hLk hf nt
    rw [w1]
    exact ⟨X', hans _ _, w2⟩
  rw [if_neg k1, if_neg k1]
  by_cases k2 : k = 2
  · rw [if_pos k2, if_pos k2]
    obtain ⟨X', w1, w2⟩ := Po_open2 (nt := nt) (fu := fu) (M := M) (x := x) h hM hb hB hR hI hLk (by omega)
    rw [w1]
    simp only [Option.bind_some, bz_x, gd_t]
    exact ⟨X', rfl, w2⟩
  rw [if_neg k2, if_neg k2]
  by_cases k3 : k = 3
  · rw [if_pos k3, if_pos k3]
    obtain ⟨X', w1, w2⟩ := Po_close2 (nt := nt) (fu := fu) (M := M) (x := x) h hM hb hB hR hI hLk (by omega)
    rw [w1]
    simp only [Option.bind_some, bz_x, gd_t]
    exact ⟨X', rfl, w2⟩
  rw [if_neg k3, if_neg k3]
  by_cases k4 : k = 4
  · rw [if_pos k4, if_pos k4]
    obtain ⟨X', w1, w2⟩ := t_commits (fu := fu) (M := M) h hM hb hB hR hI (by omega) hLk (by omega) nt
    rw [w1]
    exact ⟨X', hans _ _, w2⟩
  · rw [if_neg k4, if_neg k4]
    obtain ⟨X', w1, w2, w3, w4, w5, w6⟩ := t_collects (fu := fu) (M := M) h hM hb hB hR hI hV hLk (by omega) nt
    rw [w1]
    exact ⟨X', hans _ _, w2, w3, w4, w5, w6⟩
end
