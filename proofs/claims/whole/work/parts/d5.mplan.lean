/-! ===== a PLAN's lines, read: the reference ===== -/
def PlX (S : plS) (Y : xT) (N : xM) : Prop := (∀ j, j < 4 → Y 90 (20 + j) = i3 (S.1 0 j)) ∧ Y 90 35 = i3 S.2.2.1 ∧ (∀ k, k < S.1 0 3 → Y 90 (25 + 2 * k) = i3 (S.1 1 k) ∧ Y 90 (25 + 2 * k + 1) = i3 (S.1 2 k) ∧ gL N 21 4 (5 + k) = Int64.ofNat (enc 37 (S.2.1 k))) ∧
  (S.2.2.1 / 8 % 2 = 0 → Y 90 24 = -1 ∧ Y 0 12 = 0) ∧ (S.2.2.1 / 8 % 2 = 1 → Y 90 24 = 0 ∧ Y 0 12 = i3 (S.2.2.2.length + 1) ∧ Y 91 (1100 + S.2.2.2.length) = 0 ∧ ∀ k, k < S.2.2.2.length → Y 91 (1100 + k) = i3 (S.2.2.2.getD k 0))
/-- what reading a plan leaves alone -/
def PxF (Y Y' : xT) : Prop := ∀ j k, (j ≠ 0 ∨ k ≠ 7 ∧ k ≠ 8 ∧ k ≠ 12) → (j ≠ 90 ∨ k < 20) → (j ≠ 91 ∨ k < 1100) → Y' j k = Y j k
def PnN (N N' : xM) : Prop := N'.1 = N.1 ∧ (∀ c s k, gR N' c s k = gR N c s k) ∧ (∀ c s, gN N' c s = gN N c s) ∧ ∀ c s k, (c ≠ 21 ∨ s ≠ 4 ∨ k < 5) → gL N' c s k = gL N c s k
section
variable {M M' M1 N N' N1 : xM} {X Y Y' Y1 : xT} {f : Nat → Nat} {fu l t T n i j k d s x a b w F e m g lo hi p : Nat} {c ls : List Nat} {q : Nat × Nat} {u v y0 : Int32} {nm : Nat → List Nat} {S S' : plS} {y : Int64} {C : xC}
theorem PxF_rf : PxF Y Y := fun _ _ _ _ _ => rfl
theorem PxF_tr (h : PxF Y Y1) (h2 : PxF Y1 Y') : PxF Y Y' := fun j k a b c => (h2 j k a b c).trans (h j k a b c)
theorem PxF_xn (h : XnF Y Y') : PxF Y Y' := fun j k a _ _ => h j k (by omega)
theorem PxF_xd (h : XdF Y Y') : PxF Y Y' := fun j k a _ c => h j k a c
theorem PxF_90 (h : 20 ≤ k) : PxF Y (up Y 90 k v) := fun j i a b c => up_ne (by omega)
theorem PnN_rf : PnN N N := ⟨rfl, fun _ _ _ => rfl, fun _ _ => rfl, fun _ _ _ _ => rfl⟩
theorem PnN_tr (h : PnN N N1) (h2 : PnN N1 N') : PnN N N' := ⟨h2.1.trans h.1, fun c s k => (h2.2.1 c s k).trans (h.2.1 c s k), fun c s => (h2.2.2.1 c s).trans (h.2.2.1 c s), fun c s k q => (h2.2.2.2 c s k q).trans (h.2.2.2 c s k q)⟩
theorem PnN_sL (h : 5 ≤ k) : PnN N (sL N 21 4 k y) := ⟨rfl, fun _ _ _ => rfl, fun _ _ => rfl, fun c s k' q => by rw [gL_sLo, if_neg (by omega)]⟩
theorem Lay_N (h : Lay N) (hN : PnN N N') : Lay N' := ⟨fun c s k v e => (hN.2.1 c s k).trans (h.1 c s k v e), fun c s n e => (hN.2.2.1 c s).trans (h.2 c s n e)⟩
theorem LnX_N (h : LnX f t T q Y N) (hN : PnN N N') : LnX f t T q Y N' := by
  obtain ⟨⟨h1, h2, h3, h4, h5, h6, h7, h8, h9, h10, h11, h12⟩, hq⟩ := h
  refine ⟨⟨Lay_N h1 hN, fun k hk => (hN.2.2.2 _ _ _ (by omega)).trans (h2 k hk), fun j hj => ?_, h4, h5, h6, h7, h8, h9, h10, h11, h12⟩, hq⟩
  obtain ⟨g1, g2, g3, g4⟩ := h3 j hj
  exact ⟨g1, g2, g3, (hN.2.2.2 _ _ _ (by omega)).trans g4⟩
theorem LnX_y (h : LnX f t T q Y N) (e : ∀ j k, (j = 88 ∨ j = 89 ∨ j = 0 ∧ (k = 7 ∨ k = 8)) → Y' j k = Y j k) : LnX f t T q Y' N :=
  ⟨AtX_cg h.1 (fun k => e _ _ (by omega)) (fun k => e _ _ (by omega)) ((e _ _ (by omega)).trans h.1.2.2.2.2.2.2.2.2.2.1) h.1.2.2.2.2.2.2.2.2.2.2.1 ((e _ _ (by omega)).trans h.1.2.2.2.2.2.2.2.2.2.2.2), h.2⟩
theorem LnX_90 (h : LnX f t T q Y N) : LnX f t T q (up Y 90 k v) N := LnX_y h (fun j k _ => up_ne (by omega))
theorem PlX_x (h : PlX S Y N) (hF : XnF Y Y') : PlX S Y' N := by
  obtain ⟨h1, h2, h3, h4, h5⟩ := h
  exact ⟨fun j hj => (hF _ _ (by omega)).trans (h1 j hj), (hF _ _ (by omega)).trans h2, fun k hk => ⟨(hF _ _ (by omega)).trans (h3 k hk).1, (hF _ _ (by omega)).trans (h3 k hk).2.1, (h3 k hk).2.2⟩, fun z => ⟨(hF _ _ (by omega)).trans (h4 z).1, (hF _ _ (by omega)).trans (h4 z).2⟩, fun z => ⟨(hF _ _ (by omega)).trans (h5 z).1, (hF _ _ (by omega)).trans (h5 z).2.1, (hF _ _ (by omega)).trans (h5 z).2.2.1, fun k hk => (hF _ _ (by omega)).trans ((h5 z).2.2.2 k hk)⟩⟩
theorem gd90 {α : Type} {r0 : Option α} (h : Lay N) (hk : k < 40) : gd (xin (i3 k) (gN (mmb Y N) 20 90)) r0 = r0 := by
  rw [gN_mmb, n20_90 h, xin_i3 hk (by omega), gd_t]
theorem gr10 (h : Lay N) : gR (mmb Y N) 12 0 10 = some 90 := l12_0_10 h
theorem up07 (h : LnX f t T q Y N) : sI (mmb Y N) 12 0 7 (gI (mmb Y N) 12 0 7 + 0) = mmb Y N := by
  rw [m_0, p_0, show Y 0 7 + 0 = Y 0 7 from Int32.add_zero _, up_self]
theorem wHr_kd : wHr (tkK f t s) 12 4 = match kdO f t s with | some k => i3 k | none => -1 := by
  unfold wHr kdO
  cases e : tkK f t s with
  | none => rfl
  | some m =>
    show (if 12 ≤ m ∧ m < 12 + 4 then i3 (m - 12) else -1) = match (if 12 ≤ m ∧ m ≤ 15 then some (m - 12) else none) with | some k => i3 k | none => -1
    by_cases c : 12 ≤ m ∧ m ≤ 15
    · rw [if_pos (show 12 ≤ m ∧ m < 12 + 4 by omega), if_pos c]
    · rw [if_neg (show ¬ (12 ≤ m ∧ m < 12 + 4) by omega), if_neg c]
/-- a kind taken -/
theorem t_takeOne (h : LnX f t T (0, i) Y N) (hi : i ≤ T) (hT0 : tS f t T = t) (ht : t ≤ 1000) (hf : 1100 < fu) :
    (∃ k, kdO f t (tS f t i) = some k ∧ k < 4 ∧ i < T ∧ F_X12_takeOne fu 0 12 4 (mmb Y N) = some (i3 k, mmb (up Y 0 7 (i3 (i + 1))) N)) ∨ kdO f t (tS f t i) = none ∧ ∃ Y', F_X12_takeOne fu 0 12 4 (mmb Y N) = some (0, mmb Y' N) ∧ LnX f t T (1 + 16 * tS f t i, i) Y' N ∧ XnF Y Y' := by
  have ew : F_X12_wordHere fu 0 12 4 (mmb Y N) = some (wHr (tkK f t (tS f t i)) 12 4, mmb Y N) := t_wordHere (a := 12) (n := 4) h.1 rfl (by omega) hf
  have hhead : F_X12_takeOne fu 0 12 4 (mmb Y N) = J_X12_takeOne_17 fu 0 (wHr (tkK f t (tS f t i)) 12 4) (mmb Y N) := by
    unfold F_X12_takeOne
    rw [if_pos (by rw [x8_le h]), ew]
    rfl
  rw [hhead, wHr_kd]
  unfold J_X12_takeOne_17
  rw [if_neg (by rw [x8_0 h]; exact fun z => z rfl)]
  cases e : kdO f t (tS f t i) with
  | some k =>
    obtain ⟨k4, kk⟩ := kdO_some e
    have hlt := kw_lt hT0 hi kk
    left
    refine ⟨k, rfl, k4, hlt, ?_⟩
    simp only
    rw [if_pos (show (0 : Int32) ≤ i3 k from ge0 (by omega))]
    unfold J_X12_takeOne_34 J_X12_takeOne_51
    rw [if_pos (by rw [x8_le h])]
    simp only
    rw [x_7 h, if_pos (by rw [x8_le (LnX_nx h hlt).1])]
  | none =>
    right
    obtain ⟨Y', r1, r2, r3⟩ := LnX_fail (fu := fu) (k := 1) h (by omega) (by omega) ht
    have hne : ¬ (1 + 16 * tS f t i, i).1 = 0 := by show ¬ (1 + 16 * tS f t i = 0); omega
    refine ⟨rfl, Y', ?_, r2, r3⟩
    simp only
    rw [if_neg (show ¬ (0 : Int32) ≤ -1 by decide), show F_X12_wrong fu 0 1 (mmb Y N) = _ from r1]
    simp only [Option.bind_some]
    unfold J_X12_takeOne_34 J_X12_takeOne_51
    rw [if_neg (by rw [x8_le r2]; exact hne)]
    simp only
    rw [up07 r2, if_neg (by rw [x8_le r2]; exact hne)]
/-- a word taken -/
theorem t_takeWord (h : LnX f t T (0, i) Y N) (hi : i ≤ T) (hT0 : tS f t T = t) (ht : t ≤ 1000) (hk : k < 23) :
    (tkK f t (tS f t i) = some k → i < T ∧ F_X12_takeWord fu 0 (i3 k) (mmb Y N) = some (mmb (up Y 0 7 (i3 (i + 1))) N)) ∧ (tkK f t (tS f t i) ≠ some k → ∃ Y', F_X12_takeWord fu 0 (i3 k) (mmb Y N) = some (mmb Y' N) ∧ LnX f t T (1 + 16 * tS f t i, i) Y' N ∧ XnF Y Y') := by
  have ew := t_isWord (fu := fu) (k := k) h.1 rfl hk
  unfold F_X12_takeWord F_X12_hasWord
  rw [show F_X12_isWord fu 0 (i3 k) (mmb Y N) = _ from ew]
  simp only [Option.bind_some]
  refine ⟨fun c => ⟨kw_lt hT0 hi c, ?_⟩, fun c => ?_⟩
  · rw [decide_eq_true c, if_neg (show ¬ bz true = 0 from by decide), x_7 h, bz_x, gd_t]
    simp only [Option.bind_some]
    rw [if_pos (show ¬ bz true = 0 from by decide)]
  · obtain ⟨Y', r1, r2, r3⟩ := LnX_fail (fu := fu) (k := 1) h (by omega) (by omega) ht
    refine ⟨Y', ?_, r2, r3⟩
    rw [decide_eq_false c, if_pos (show bz false = 0 from rfl), up07 h, bz_x, gd_t]
    simp only [Option.bind_some]
    rw [if_neg (show ¬ ¬ bz false = 0 from fun z => z rfl), show F_X12_wrong fu 0 1 (mmb Y N) = _ from r1]
    rfl
theorem t_takeWordF (h : LnX f t T q Y N) (h0 : q.1 ≠ 0) : F_X12_takeWord fu 0 u (mmb Y N) = some (mmb Y N) := by
  unfold F_X12_takeWord F_X12_hasWord
  rw [t_isWordF h.1 (LnX_v h h0)]
  simp only [Option.bind_some]
  rw [if_pos trivial, up07 h, xb_f, gd_t]
  simp only [Option.bind_some]
  rw [if_neg (fun z => z trivial), t_wrongF h.1 (LnX_v h h0)]
  rfl
end
