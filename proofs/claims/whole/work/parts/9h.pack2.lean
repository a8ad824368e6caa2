/-! ===== what pages say, packed: the reference ===== -/
/-- a page's number in a pack: none is 0 -/
def sv (C : xC) (D : xT) (a : Nat) : Nat := xi (saysT C D a + 1)
/-- the digits of the n-th pack -/
def dg (C : xC) (D : xT) (n k : Nat) : Nat := if 7 * n + k < 20 then sv C D (7 * n + k) else 0
/-- what page a says, packed in three longs of cell t from q on -/
def packM (M : xM) (t q : Nat) (S : Nat → Nat → Nat) : Nat → xM
  | 0 => M
  | n + 1 => sL (packM M t q S n) 21 t (q + n) (Int64.ofNat (hor (S n) 7))
section
variable {M : xM} {D E X Y Z T N X' E' E0 Tc : xT} {C : xC} {R G G' : Nat → Int32} {fu b d L L' s o t k n m i j p q f l w nb nw a r g c e B K P Q : Nat} {x y z v u : Int32} {nt : Bool} {S : Nat → Nat → Nat} {kk : Nat → Int32 → Option Nat → Int32 → Int32 → xM → Option xM}
theorem says_ok (hN : InN C D) : ∃ n, n ≤ 256 ∧ saysT C D a + 1 = i3 n := by
  unfold saysT
  by_cases c : D 9 a = 0
  · rw [if_pos c]; exact ⟨0, by omega, by decide⟩
  · rw [if_neg c]
    cases hl : lst (fun s => decide (D 2 s = 1) && decide (D 3 s = D 9 a)) (tot C) with
    | none => exact ⟨0, by omega, show ((-1 : Int32) + 1) = i3 0 by decide⟩
    | some s =>
      obtain ⟨h1, h2, -⟩ := lst_some.mp hl
      simp only [Bool.and_eq_true, decide_eq_true_eq] at h2
      rcases hN s h1 with q | q | q
      · rw [h2.1] at q; exact absurd q.1 (by decide)
      · rw [h2.1] at q; exact absurd q.1 (by decide)
      · rcases q.2.2.2 with r | r | r
        · obtain ⟨-, f, p, v, g1, g2, g3, g4, g5, g6⟩ := r
          refine ⟨v + 1, by omega, ?_⟩
          show D 6 s + 1 = _
          rw [g6, i3_add1]
        · rw [h2.1] at r; exact absurd r.1 (by decide)
        · rw [h2.1] at r; exact absurd r.1 (by decide)
theorem sv_is (hN : InN C D) : saysT C D a + 1 = i3 (sv C D a) ∧ sv C D a ≤ 256 := by
  obtain ⟨n, h1, h2⟩ := says_ok (a := a) hN
  unfold sv
  rw [h2, xi_i3 (by omega)]
  exact ⟨rfl, h1⟩
theorem dg_lt (hN : InN C D) : ∀ k, dg C D n k < 512 := by
  intro k
  unfold dg
  split
  · have := (sv_is (a := 7 * n + k) hN).2; omega
  · omega
theorem says_sv (hN : InN C D) (hN2 : InN C E) (h : sv C D a = sv C E a) : saysT C D a = saysT C E a := by
  have h1 := (sv_is (a := a) hN).1
  have h2 := (sv_is (a := a) hN2).1
  rw [h, ← h2] at h1
  have := congrArg (fun w => w - 1) h1
  simpa using this
theorem t_pack16 (h : Lay M) (hM : MCfg C X) (hb : b ≤ 2140) (hB : CB C) (hR : Rel C b D X) (hMp : InM C D) (hN : InN C D) (hf : 100 < fu) (hn : n < 3) (hq : q + 3 ≤ 1000) (hl : q + 3 ≤ gN M 21 t) (hl2 : gN M 21 t ≤ 1000) : ∀ r l, r ≤ 7 → r < l →
    L_X12_packs_16 fu kk l 0 (i3 b) (some t) (i3 q) (i3 n) (Int64.ofNat (hor (dg C D n) (7 - r))) (i3 r + (-1)) (mmb X M) = kk 0 (i3 b) (some t) (i3 q) (i3 (n + 1)) (mmb X (sL M 21 t (q + n) (Int64.ofNat (hor (dg C D n) 7))))
  | 0, l, hr, hl0 => by
    obtain ⟨l, rfl⟩ : ∃ k, l = k + 1 := ⟨l - 1, by omega⟩
    conv => lhs; unfold L_X12_packs_16
    rw [if_pos (by decide)]
    simp only [Option.bind_some, i3_add, gN_mmb, i3_add1]
    rw [xin_i3 (show q + n < gN M 21 t by omega) (by omega), gd_t, xi_i3 (by omega)]
    rfl
  | r + 1, l, hr, hl0 => by
    obtain ⟨l, rfl⟩ : ∃ k, l = k + 1 := ⟨l - 1, by omega⟩
    have ih := t_pack16 h hM hb hB hR hMp hN hf hn hq hl hl2 r l (by omega) (by omega)
    conv => lhs; unfold L_X12_packs_16
    have e7 : (7 : Int32) * i3 n + i3 r = i3 (7 * n + r) := by rw [show (7 : Int32) = i3 7 from rfl, i3_mul, i3_add]
    have eh : hor (dg C D n) (7 - r) = 512 * hor (dg C D n) (7 - (r + 1)) + dg C D n r := by
      rw [show 7 - r = (7 - (r + 1)) + 1 by omega]
      show 512 * hor (dg C D n) (7 - (r + 1)) + dg C D n (6 - (7 - (r + 1))) = _
      rw [show 6 - (7 - (r + 1)) = r by omega]
    rw [dec_i3, if_neg (fun q => (i3_nl (a := r) (by omega)).mp q)]
    simp only [e7]
    rw [eh] at ih
    by_cases c : 7 * n + r < 20
    · have hs := sv_is (a := 7 * n + r) hN
      have ed : dg C D n r = sv C D (7 * n + r) := by unfold dg; rw [if_pos c]
      rw [if_neg (fun q => by have := (i3_le (a := 20) (by omega) (by omega)).mp q; omega), dec4, gd_t, gd_t]
      have e4 : i3 (7 * n + r) / 4 = i3 ((7 * n + r) / 4) := by rw [show (4 : Int32) = i3 4 from rfl, i3_div (by omega) (by omega)]
      have e5 : i3 (7 * n + r) - i3 ((7 * n + r) / 4) * 4 = i3 ((7 * n + r) % 4) := by
        rw [show (4 : Int32) = i3 4 from rfl, i3_mul, i3_sub (by omega)]
        congr 1; omega
      rw [e4, e5, t_saysOf h hM hb hB hR hMp hf (by omega) (by omega)]
      simp only [Option.bind_some]
      rw [show (7 * n + r) / 4 * 4 + (7 * n + r) % 4 = 7 * n + r by omega, hs.1]
      have e6 := st64 (hor (dg C D n) (7 - (r + 1))) (sv C D (7 * n + r)) (by omega)
      rw [ed] at ih
      rw [show i3 (sv C D (7 * n + r)) = Int32.ofNat (sv C D (7 * n + r)) from rfl, e6]
      exact ih
    · have ed : dg C D n r = 0 := by unfold dg; rw [if_neg c]
      rw [if_pos (show (20 : Int32) ≤ i3 (7 * n + r) from (i3_le (a := 20) (by omega) (by omega)).mpr (by omega))]
      have e6 := st64 (hor (dg C D n) (7 - (r + 1))) 0 (by omega)
      rw [ed] at ih
      rw [show (0 : Int32) = Int32.ofNat 0 from rfl, e6]
      exact ih
theorem packM_N : gN (packM M t q S n) = gN M := by
  induction n with
  | zero => rfl
  | succ n ih => exact ih
theorem packM_lay (h : Lay M) : Lay (packM M t q S n) := by
  induction n with
  | zero => exact h
  | succ n ih => exact Lay_sL ih
theorem t_packs (h : Lay M) (hM : MCfg C X) (hb : b ≤ 2140) (hB : CB C) (hR : Rel C b D X) (hMp : InM C D) (hN : InN C D) (hf : 100 < fu) (hq : q + 3 ≤ 1000) (hl : q + 3 ≤ gN M 21 t) (hl2 : gN M 21 t ≤ 1000) :
    F_X12_packs fu 0 (i3 b) (some t) (i3 q) (mmb X M) = some (mmb X (packM M t q (dg C D) 3)) := by
  unfold F_X12_packs
  refine lpc (fun l n (M' : xM) => L_X12_packs_3 fu l 0 (i3 b) (some t) (i3 q) (i3 n) (mmb X M')) (packM M t q (dg C D)) 3 _ ?_ ?_ fu 0 (by omega) (by omega)
  · intro l n hn
    show L_X12_packs_3 fu (l + 1) 0 (i3 b) (some t) (i3 q) (i3 n) (mmb X (packM M t q (dg C D) n)) = L_X12_packs_3 fu l 0 (i3 b) (some t) (i3 q) (i3 (n + 1)) (mmb X (packM M t q (dg C D) (n + 1)))
    conv => lhs; unfold L_X12_packs_3
    rw [if_neg (fun q => by have := (i3_le (a := 3) (by omega) (by omega)).mp q; omega)]
    have := t_pack16 (kk := L_X12_packs_3 fu l) (fu := fu) (M := packM M t q (dg C D) n) (t := t) (packM_lay h) hM hb hB hR hMp hN hf hn hq (by rw [packM_N]; exact hl) (by rw [packM_N]; exact hl2) 7 fu (Nat.le_refl _) (by omega)
    exact this
  · intro l
    show L_X12_packs_3 fu (l + 1) 0 (i3 b) (some t) (i3 q) (i3 3) (mmb X (packM M t q (dg C D) 3)) = _
    conv => lhs; unfold L_X12_packs_3
    rw [if_pos (show (3 : Int32) ≤ i3 3 from Int32.le_refl _)]
end
