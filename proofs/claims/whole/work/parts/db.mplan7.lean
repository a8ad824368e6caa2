/-! ===== a PLAN stored: the reference's stores ===== -/
def c1X (Y : xT) (m : Nat) : xT := fun a b => if a = 90 ∧ b < m then Y 90 (20 + b) else Y a b
def c2X (Y : xT) (m : Nat) : xT := fun a b => if a = 91 ∧ b < m then Y 91 (1100 + b) else Y a b
def nmN (N : xM) : Nat → xM
  | 0 => N
  | k + 1 => sL (nmN N k) 21 4 k (gL (nmN N k) 21 4 (5 + k))
def bgX (X : xT) : xT := up (up (up (up (up (stX X 0) 95 502 0) 92 0 0) 0 26 0) 1 0 0) 1 1 0
section
variable {M M' M1 N N' N1 : xM} {X Y Y' Y1 : xT} {f : Nat → Nat} {fu l t T n i j k d s x a b w F e m g lo hi p : Nat} {c ls : List Nat} {q : Nat × Nat} {u v y0 : Int32} {nm : Nat → List Nat} {S S' : plS} {y : Int64} {C : xC} {R : Nat → Int32}
theorem nmN_1 : ∀ k, (nmN N k).1 = N.1 ∧ (∀ c s j, gR (nmN N k) c s j = gR N c s j) ∧ ∀ c s, gN (nmN N k) c s = gN N c s
  | 0 => ⟨rfl, fun _ _ _ => rfl, fun _ _ => rfl⟩
  | k + 1 => nmN_1 k
theorem nmN_L : ∀ k, k ≤ 5 → ∀ c s j, gL (nmN N k) c s j = if c = 21 ∧ s = 4 ∧ j < k then gL N 21 4 (5 + j) else gL N c s j
  | 0, _, c, s, j => by rw [if_neg (by omega)]; rfl
  | k + 1, hk, c, s, j => by
    show gL (sL (nmN N k) 21 4 k (gL (nmN N k) 21 4 (5 + k))) c s j = _
    rw [gL_sLo]
    by_cases z : c = 21 ∧ s = 4 ∧ j = k
    · rw [if_pos z, if_pos (by omega), nmN_L k (by omega), if_neg (by omega), z.2.2]
    · rw [if_neg z, nmN_L k (by omega)]
      by_cases z2 : c = 21 ∧ s = 4 ∧ j < k
      · rw [if_pos z2, if_pos (by omega)]
      · rw [if_neg z2, if_neg (by omega)]
theorem nmN_lay (h : Lay N) : Lay (nmN N k) := ⟨fun c s j v e => ((nmN_1 k).2.1 c s j).trans (h.1 c s j v e), fun c s n e => ((nmN_1 k).2.2 c s).trans (h.2 c s n e)⟩
theorem t_begins (h : Lay N) (hf : 600 < fu) : F_X12_begins fu 0 (mmb X N) = some (mmb (bgX X) N) := by
  unfold F_X12_begins
  rw [show F_X12_starts fu 0 0 (mmb X N) = _ from t_starts (b := 0) h (by omega) hf]
  simp only [Option.bind_some]
  rw [gR_mmb, l12_0_17 h]
  simp only [Option.bind_some]
  rw [gN_mmb, n20_95 h, show (502 : Int32) = i3 502 from rfl, xin_i3 (show 502 < 2675 by omega) (by omega), gd_t, xi_i3 (by omega), p_95, gR_mmb, l12_0_14 h]
  simp only [Option.bind_some]
  rw [show xin 0 (gN (mmb (up (stX X 0) 95 502 0) N) 20 92) = true by rw [gN_mmb, n20_92 h]; decide, gd_t, show xi 0 = 0 from rfl, p_92, xb_f, gd_t, p_0, gR_mmb, l12_0_18 h]
  simp only [Option.bind_some]
  rw [show xin 0 (gN (mmb (up (up (up (stX X 0) 95 502 0) 92 0 0) 0 26 0) N) 22 20) = true by rw [gN_mmb, n22_20 h]; decide, gd_t, gd_t, p_1, gR_mmb, l12_0_18 h]
  simp only [Option.bind_some]
  rw [show xin 1 (gN (mmb (up (up (up (up (stX X 0) 95 502 0) 92 0 0) 0 26 0) 1 0 0) N) 22 20) = true by rw [gN_mmb, n22_20 h]; decide, gd_t, gd_t, show xi 1 = 1 from rfl, p_1]
  rfl
theorem t_st127 (h : Lay N) (hf : 600 < fu) : L_X12_store_127 fu fu 0 0 (mmb Y N) = some (0, mmb (bgX Y) (nmN N 5)) := by
  refine lpc (fun l k (x : xM) => L_X12_store_127 fu l 0 (i3 k) (mmb Y x)) (fun k => nmN N k) 5 (some (0, mmb (bgX Y) (nmN N 5))) ?_ ?_ fu 0 (by omega) (by omega)
  · intro l k hk
    show L_X12_store_127 fu (l + 1) 0 (i3 k) (mmb Y (nmN N k)) = L_X12_store_127 fu l 0 (i3 (k + 1)) (mmb Y (nmN N (k + 1)))
    have hL := nmN_lay (k := k) h
    conv => lhs; unfold L_X12_store_127
    rw [if_neg (show ¬ (5 : Int32) ≤ i3 k from fun q => by have := (i3_le (a := 5) (by omega) (by omega)).mp q; omega), gR_mmb, l12_0_13 hL]
    simp only [Option.bind_some]
    rw [gN_mmb, n21_4 hL, show (5 : Int32) + i3 k = i3 (5 + k) from i3_add 5 k, xin_i3 (show 5 + k < 10 by omega) (by omega), gd_t, xin_i3 (show k < 10 by omega) (by omega), gd_t, xi_i3 (by omega), xi_i3 (by omega), i3_add1]
    rfl
  · intro l
    show L_X12_store_127 fu (l + 1) 0 (i3 5) (mmb Y (nmN N 5)) = _
    conv => lhs; unfold L_X12_store_127
    rw [if_pos (show (5 : Int32) ≤ i3 5 from Int32.le_refl _), t_begins (nmN_lay h) hf]
    rfl
theorem t_st95 (h : Lay N) (hf : 1100 < fu) (h12 : Y 0 12 = i3 m) (hm : m ≤ 1001) : L_X12_store_95 fu fu 0 0 (mmb Y N) = some (0, mmb (bgX (c2X Y m)) (nmN N 5)) := by
  have key := lpc (fun l k (x : xT) => L_X12_store_95 fu l 0 (i3 k) (mmb x N)) (fun k => c2X Y k) m (some (0, mmb (bgX (c2X Y m)) (nmN N 5))) ?_ ?_ fu 0 (by omega) (by omega)
  · have e0 : c2X Y 0 = Y := by
      funext a b
      unfold c2X
      rw [if_neg (by omega)]
    simp only [e0] at key
    exact key
  · intro l k hk
    show L_X12_store_95 fu (l + 1) 0 (i3 k) (mmb (c2X Y k) N) = L_X12_store_95 fu l 0 (i3 (k + 1)) (mmb (c2X Y (k + 1)) N)
    have e12 : c2X Y k 0 12 = i3 m := by unfold c2X; rw [if_neg (by omega)]; exact h12
    conv => lhs; unfold L_X12_store_95
    rw [m_0, e12, if_neg (fun q => by have := (i3_le (by omega) (by omega)).mp q; omega), gR_mmb, l12_0_11 h]
    simp only [Option.bind_some]
    rw [gN_mmb, n20_91 h, show (1100 : Int32) + i3 k = i3 (1100 + k) from i3_add 1100 k, xin_i3 (show 1100 + k < 2200 by omega) (by omega), gd_t, xin_i3 (show k < 2200 by omega) (by omega), gd_t, xi_i3 (by omega), xi_i3 (by omega), m_91, p_91, i3_add1]
    congr 2
    funext a b
    rw [up_at]
    unfold c2X
    by_cases z : a = 91 ∧ b = k
    · rw [if_pos z, if_neg (show ¬ (91 = 91 ∧ 1100 + k < k) by omega), if_pos (show a = 91 ∧ b < k + 1 by omega), z.2]
    · rw [if_neg z]
      by_cases z2 : a = 91 ∧ b < k
      · rw [if_pos z2, if_pos (by omega)]
      · rw [if_neg z2, if_neg (by omega)]
  · intro l
    show L_X12_store_95 fu (l + 1) 0 (i3 m) (mmb (c2X Y m) N) = _
    have e12 : c2X Y m 0 12 = i3 m := by unfold c2X; rw [if_neg (by omega)]; exact h12
    conv => lhs; unfold L_X12_store_95
    rw [m_0, e12, if_pos (Int32.le_refl _)]
    exact t_st127 h (by omega)
theorem t_st66 (h : Lay N) (hf : 1100 < fu) (h12 : Y 0 12 = i3 m) (hm : m ≤ 1001) : L_X12_store_66 fu fu 0 0 (mmb Y N) = some (0, mmb (bgX (c2X (c1X Y 20) m)) (nmN N 5)) := by
  have key := lpc (fun l k (x : xT) => L_X12_store_66 fu l 0 (i3 k) (mmb x N)) (fun k => c1X Y k) 20 (some (0, mmb (bgX (c2X (c1X Y 20) m)) (nmN N 5))) ?_ ?_ fu 0 (by omega) (by omega)
  · have e0 : c1X Y 0 = Y := by
      funext a b
      unfold c1X
      rw [if_neg (by omega)]
    simp only [e0] at key
    exact key
  · intro l k hk
    show L_X12_store_66 fu (l + 1) 0 (i3 k) (mmb (c1X Y k) N) = L_X12_store_66 fu l 0 (i3 (k + 1)) (mmb (c1X Y (k + 1)) N)
    conv => lhs; unfold L_X12_store_66
    rw [if_neg (show ¬ (20 : Int32) ≤ i3 k from fun q => by have := (i3_le (a := 20) (by omega) (by omega)).mp q; omega), gr10 h]
    simp only [Option.bind_some]
    rw [show (20 : Int32) + i3 k = i3 (20 + k) from i3_add 20 k, gd90 h (by omega), gd90 h (by omega), xi_i3 (by omega), xi_i3 (by omega), m_90, p_90, i3_add1]
    congr 2
    funext a b
    rw [up_at]
    unfold c1X
    by_cases z : a = 90 ∧ b = k
    · rw [if_pos z, if_neg (show ¬ (90 = 90 ∧ 20 + k < k) by omega), if_pos (show a = 90 ∧ b < k + 1 by omega), z.2]
    · rw [if_neg z]
      by_cases z2 : a = 90 ∧ b < k
      · rw [if_pos z2, if_pos (by omega)]
      · rw [if_neg z2, if_neg (by omega)]
  · intro l
    show L_X12_store_66 fu (l + 1) 0 (i3 20) (mmb (c1X Y 20) N) = _
    have e12 : c1X Y 20 0 12 = i3 m := by unfold c1X; rw [if_neg (by omega)]; exact h12
    conv => lhs; unfold L_X12_store_66
    rw [if_pos (show (20 : Int32) ≤ i3 20 from Int32.le_refl _)]
    exact t_st95 h hf e12 hm
theorem t_st52 (h : LnX f t T (0, i) Y N) (hf : 1100 < fu) (h12 : Y 0 12 = i3 m) (hm : m ≤ 1001) : J_X12_store_52 fu 0 (mmb Y N) = some (0, mmb (bgX (c2X (c1X Y 20) m)) (nmN N 5)) := by
  unfold J_X12_store_52
  rw [if_pos (by rw [x8_le h])]
  exact t_st66 h.1.1 hf h12 hm
theorem t_st52F (h : LnX f t T q Y N) (h0 : q.1 ≠ 0) : J_X12_store_52 fu 0 (mmb Y N) = some (i3 q.1, mmb Y N) := by
  unfold J_X12_store_52
  rw [if_neg (by rw [x8_le h]; exact h0), m_0, h.1.2.2.2.2.2.2.2.2.2.2.2]
/-! the rule told is a rule -/
theorem code_x (h : okX x) : codeOf (clsC x) (i3 x) ∧ (¬ clsC x ≤ -5 → x % 16 = 1 ∨ x % 16 = 2) ∧ (clsC x = -5 → x % 16 = 3) ∧ (¬ (-5 : Int32) ≤ clsC x → 3 < x % 16) := by
  rcases h with ⟨v, v1, rfl⟩ | ⟨j, j1, rfl⟩ | ⟨x1, x2⟩
  · have e : clsC (1 + 16 * v) = i3 v := cls_n v
    have h0 : (0 : Int32) ≤ i3 v := ge0 (by omega)
    rw [e]
    refine ⟨Or.inl ⟨v, v1, rfl, by rw [show 1 + 16 * v = 16 * v + 1 by omega]⟩, fun _ => Or.inl (by omega), fun z => ?_, fun z => ?_⟩
    · rw [z] at h0; exact absurd h0 (by decide)
    · exact absurd (Int32.le_trans (show (-5 : Int32) ≤ 0 by decide) h0) z
  · rcases (show j = 0 ∨ j = 1 ∨ j = 2 ∨ j = 3 by omega) with rfl | rfl | rfl | rfl
    · exact ⟨Or.inr (Or.inl ⟨0, by omega, rfl, rfl⟩), fun _ => Or.inr rfl, fun z => absurd z (by decide), fun z => absurd (show (-5 : Int32) ≤ clsC (2 + 16 * 0) by decide) z⟩
    · exact ⟨Or.inr (Or.inl ⟨1, by omega, rfl, rfl⟩), fun _ => Or.inr rfl, fun z => absurd z (by decide), fun z => absurd (show (-5 : Int32) ≤ clsC (2 + 16 * 1) by decide) z⟩
    · exact ⟨Or.inr (Or.inl ⟨2, by omega, rfl, rfl⟩), fun _ => Or.inr rfl, fun z => absurd z (by decide), fun z => absurd (show (-5 : Int32) ≤ clsC (2 + 16 * 2) by decide) z⟩
    · exact ⟨Or.inr (Or.inl ⟨3, by omega, rfl, rfl⟩), fun _ => Or.inr rfl, fun z => absurd z (by decide), fun z => absurd (show (-5 : Int32) ≤ clsC (2 + 16 * 3) by decide) z⟩
  · rcases (show x = 3 ∨ x = 4 ∨ x = 5 ∨ x = 6 ∨ x = 7 ∨ x = 8 ∨ x = 9 ∨ x = 10 by omega) with rfl | rfl | rfl | rfl | rfl | rfl | rfl | rfl
    · exact ⟨Or.inr (Or.inr (Or.inl ⟨rfl, rfl⟩)), fun z => absurd (show clsC 3 ≤ -5 by decide) z, fun _ => rfl, fun z => absurd (show (-5 : Int32) ≤ clsC 3 by decide) z⟩
    · exact ⟨Or.inr (Or.inr (Or.inr ⟨0, by omega, by omega, rfl, rfl⟩)), fun z => absurd (show clsC 4 ≤ -5 by decide) z, fun z => absurd z (by decide), fun _ => by decide⟩
    · exact ⟨Or.inr (Or.inr (Or.inr ⟨1, by omega, by omega, rfl, rfl⟩)), fun z => absurd (show clsC 5 ≤ -5 by decide) z, fun z => absurd z (by decide), fun _ => by decide⟩
    · exact ⟨Or.inr (Or.inr (Or.inr ⟨2, by omega, by omega, rfl, rfl⟩)), fun z => absurd (show clsC 6 ≤ -5 by decide) z, fun z => absurd z (by decide), fun _ => by decide⟩
    · exact ⟨Or.inr (Or.inr (Or.inr ⟨3, by omega, by omega, rfl, rfl⟩)), fun z => absurd (show clsC 7 ≤ -5 by decide) z, fun z => absurd z (by decide), fun _ => by decide⟩
    · exact ⟨Or.inr (Or.inr (Or.inr ⟨4, by omega, by omega, rfl, rfl⟩)), fun z => absurd (show clsC 8 ≤ -5 by decide) z, fun z => absurd z (by decide), fun _ => by decide⟩
    · exact ⟨Or.inr (Or.inr (Or.inr ⟨5, by omega, by omega, rfl, rfl⟩)), fun z => absurd (show clsC 9 ≤ -5 by decide) z, fun z => absurd z (by decide), fun _ => by decide⟩
    · exact ⟨Or.inr (Or.inr (Or.inr ⟨6, by omega, by omega, rfl, rfl⟩)), fun z => absurd (show clsC 10 ≤ -5 by decide) z, fun z => absurd z (by decide), fun _ => by decide⟩
/-- the rule's code as the class keeps it -/
def clR (c : List Nat) : Nat → Int32 := fun i => clsC (c.getD i 0)
theorem rule_as (h1 : WF c) (h2 : hL c = 1) (hl : c.length ≤ 1000) (hC : C 0 4 = c.length) (h4 : X 90 4 = 0) (hx : ∀ i, i < c.length → X 91 i = i3 (c.getD i 0)) (ht : X 91 c.length = 0) : RuleAs C (clR c) X := by
  have hpos : 0 < c.length := by
    rcases Nat.eq_zero_or_pos c.length with z | z
    · rw [List.length_eq_zero_iff.mp z] at h2; cases h2
    · exact z
  have hh := hgt_h h1 (clR c) (fun k hk => rfl)
  right
  rw [hC]
  refine ⟨hpos, 0, by omega, h4, fun i hi => ?_, by rw [Nat.zero_add]; exact ht, fun i hi => ?_, ?_⟩
  · rw [Nat.zero_add, hx i hi]
    exact (code_x (h1 i hi).1).1
  · obtain ⟨o1, o2, o3, o4⟩ := h1 i hi
    obtain ⟨e1, e2, e3, e4⟩ := code_x o1
    rw [hh i (by omega)]
    exact ⟨fun z => o2 (e2 z), fun z => o3 (e3 z), fun z => o4 (e4 z)⟩
  · rw [hh _ (Nat.le_refl _), List.take_length]; exact h2
end
