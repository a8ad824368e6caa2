/-! ===== a WORK's line, read: the reference, together ===== -/
section
variable {M M' M1 N : xM} {X Y Y' Y1 : xT} {f : Nat → Nat} {fu l t T n i j k d s x a b w F e m g : Nat} {c ls : List Nat} {q : Nat × Nat} {u v y0 : Int32} {nm : Nat → List Nat} {D : Nat → Nat → Nat} {C : xC}
theorem j85_F (h : LnX f t T q Y N) (h0 : q.1 ≠ 0) : J_X12_readWork_85 fu 0 u v y0 (mmb Y N) = some (mmb Y N) := by
  unfold J_X12_readWork_85
  rw [if_neg (by rw [x8_le h]; exact h0)]
theorem MCfg_mk (h : MCfg C Y) (hF : MkF Y Y') : MCfg C Y' := by
  have e : ∀ k, Y' 90 k = Y 90 k := fun k => hF 90 k (by omega) (by omega)
  refine ⟨(e _).trans h.1, (e _).trans h.2.1, (e _).trans h.2.2.1, (e _).trans h.2.2.2.1, fun f hf => ⟨(e _).trans (h.2.2.2.2 f hf).1, (e _).trans (h.2.2.2.2 f hf).2⟩⟩
/-- the four cells of a line, set -/
def ln4 (Y : xT) (g k : Nat) : xT := up (up (up (up Y 92 g (i3 k)) 92 (g + 1) 0) 92 (g + 2) 0) 92 (g + 3) 0
theorem ln4_X (h : LnX f t T q Y N) : LnX f t T q (ln4 Y g k) N := LnX_92 (LnX_92 (LnX_92 (LnX_92 h)))
theorem ln4_F (h : 100 ≤ g) : MkF Y (ln4 Y g k) := MkF_tr (MkF_92 (Y := Y) (k := g) (v := i3 k) h) (MkF_tr (MkF_92 (Y := up Y 92 g (i3 k)) (k := g + 1) (v := 0) (by omega)) (MkF_tr (MkF_92 (k := g + 2) (v := 0) (by omega)) (MkF_92 (k := g + 3) (v := 0) (by omega))))
theorem ln4_o (h : j < g ∨ g + 3 < j) : ln4 Y g k 92 j = Y 92 j := by
  unfold ln4
  rw [up_ne (by omega), up_ne (by omega), up_ne (by omega), up_ne (by omega)]
theorem ln4_0 : ln4 Y g k 92 g = i3 k := by
  unfold ln4
  rw [up_ne (by omega), up_ne (by omega), up_ne (by omega), up_eq]
theorem ln4_1 : ln4 Y g k 92 (g + 1) = 0 := by
  unfold ln4
  rw [up_ne (by omega), up_ne (by omega), up_eq]
theorem ln4_2 : ln4 Y g k 92 (g + 2) = 0 := by
  unfold ln4
  rw [up_ne (by omega), up_eq]
theorem ln4_3 : ln4 Y g k 92 (g + 3) = 0 := up_eq
theorem readWork_4 (h : LnX f t T q Y N) (hg : g + 3 < 200) (hk : k < 6) : F_X12_readWork fu 0 (i3 g) (i3 k) (mmb Y N) = if k ≤ 3 then (F_X12_isName fu 0 (mmb (ln4 Y g k) N)).bind fun p_9 =>
    if p_9.1 = 0 then
      J_X12_readWork_60 fu 0 (i3 g) (i3 k) ((-1)) p_9.2
    else
      (F_X12_files fu 0 p_9.2).bind fun p_10 =>
      (F_X12_nameAt fu 0 0 p_10.1 p_10.2).bind fun p_11 =>
      J_X12_readWork_60 fu 0 (i3 g) (i3 k) p_11.1 p_11.2
  else some (mmb (ln4 Y g k) N) := by
  have hL := h.1.1
  have e1 : i3 g + 1 = i3 (g + 1) := i3_add g 1
  have e2 : i3 g + 2 = i3 (g + 2) := i3_add g 2
  have e3 : i3 g + 3 = i3 (g + 3) := i3_add g 3
  unfold F_X12_readWork ln4
  rw [gr14 hL]
  simp only [Option.bind_some]
  rw [gd92 hL (by omega), xi_i3 (by omega), p_92, gr14 hL]
  simp only [Option.bind_some]
  rw [e1, gd92 hL (by omega), xi_i3 (by omega), p_92, gr14 hL]
  simp only [Option.bind_some]
  rw [e2, gd92 hL (by omega), xi_i3 (by omega), p_92, gr14 hL]
  simp only [Option.bind_some]
  rw [e3, gd92 hL (by omega), xi_i3 (by omega), p_92]
  by_cases c : k ≤ 3
  · rw [if_pos c, if_pos (show i3 k ≤ 3 from (i3_le (b := 3) (by omega) (by omega)).mpr c)]
  · rw [if_neg c, if_neg (show ¬ i3 k ≤ 3 from fun z => c ((i3_le (b := 3) (by omega) (by omega)).mp z))]
theorem t_readWork (h : LnX f t T (0, i) Y N) (hi : i ≤ T) (hT0 : tS f t T = t) (ht : t ≤ 1000) (hp : 100 ≤ g) (hg : g + 3 < 200) (hk : k < 6) (hC : MCfg C Y) (hF : C 0 3 = F) (hN : NmX 0 F nm N) (hf : 1100 < fu) :
    ∃ Y', F_X12_readWork fu 0 (i3 g) (i3 k) (mmb Y N) = some (mmb Y' N) ∧ LnX f t T ((wlRest f t F nm k i).1, (wlRest f t F nm k i).2.1) Y' N ∧ MkF Y Y' ∧ (∀ j, j < g ∨ g + 3 < j → Y' 92 j = Y 92 j) ∧
      ((wlRest f t F nm k i).1 = 0 → Y' 92 g = i3 (wlRest f t F nm k i).2.2.1 ∧ Y' 92 (g + 1) = i3 (wlRest f t F nm k i).2.2.2.1 ∧ Y' 92 (g + 2) = i3 (wlRest f t F nm k i).2.2.2.2.1 ∧ Y' 92 (g + 3) = i3 (wlRest f t F nm k i).2.2.2.2.2) := by
  have hL := h.1.1
  have h4 : LnX f t T (0, i) (ln4 Y g k) N := ln4_X h
  rw [readWork_4 h hg hk]
  unfold wlRest
  by_cases c : k ≤ 3
  · rw [if_pos c]
    simp only [if_pos c]
    have en := t_isName (fu := fu) h4 hf
    rw [en]
    simp only [Option.bind_some]
    have hbad : ∀ (u : Int32) m, 0 < m → m ≤ 5 → ∃ Y', ((F_X12_wrong fu 0 (i3 m) (mmb (ln4 Y g k) N)).bind fun p_2 => J_X12_readWork_85 fu 0 (i3 g) (i3 k) u p_2) = some (mmb Y' N) ∧ LnX f t T (m + 16 * tS f t i, i) Y' N ∧ MkF Y Y' ∧ (∀ j, j < g ∨ g + 3 < j → Y' 92 j = Y 92 j) := fun u m h0 h5 => by
      obtain ⟨Y', r1, r2, r3⟩ := LnX_fail (fu := fu) (k := m) h4 h0 h5 ht
      refine ⟨Y', ?_, r2, MkF_tr (ln4_F hp) (MkF_xn r3), fun j hj => by rw [r3 92 j (by omega)]; exact ln4_o hj⟩
      rw [r1]
      simp only [Option.bind_some]
      exact j85_F r2 (by show ¬ (m + 16 * tS f t i = 0); omega)
    unfold wlNam
    cases e : isNm f t (tS f t i) with
    | false =>
      rw [if_pos (show bz false = 0 from rfl), if_neg (show ¬ (false = true) by decide)]
      unfold J_X12_readWork_60
      rw [en, e]
      simp only [Option.bind_some]
      rw [if_neg (show ¬ ¬ bz false = 0 from fun z => z rfl)]
      have hne : ¬ (1 + 16 * tS f t i = 0) := by omega
      simp only [if_neg hne]
      obtain ⟨Y', s1, s2, s3, s4⟩ := hbad (-1) 1 (by omega) (by omega)
      exact ⟨Y', s1, s2, s3, s4, fun z => absurd z hne⟩
    | true =>
      have c1 : tkT f t (tS f t i) = 1 := by
        have e' := e
        unfold isNm at e'
        rw [Bool.and_eq_true, decide_eq_true_eq] at e'
        exact e'.1
      have hlt := tok_lt hT0 hi (show tkT f t (tS f t i) ≠ 0 by rw [c1]; decide)
      have hF5 := hN.1
      rw [if_neg (show ¬ bz true = 0 from by decide), t_files hL (MCfg_mk hC (ln4_F hp)), hF, if_pos rfl]
      simp only [Option.bind_some]
      have hna := t_named (fu := fu) (b := 0) (nm := nm) (F := F) h4 (by omega) hN.1 hN.2.2.1 hN.2.2.2 c1 hf
      rw [show F_X12_nameAt fu 0 0 (i3 F) (mmb (ln4 Y g k) N) = _ from hna]
      simp only [Option.bind_some]
      unfold J_X12_readWork_60
      rw [en, e]
      simp only [Option.bind_some]
      rw [if_pos (show ¬ bz true = 0 from by decide)]
      cases eo : ixO nm F (tkL f t (tS f t i)) with
      | none =>
        rw [if_neg (show ¬ (0 : Int32) ≤ ixN none from by decide)]
        have hne : ¬ (2 + 16 * tS f t i = 0) := by omega
        simp only [if_neg hne]
        obtain ⟨Y', s1, s2, s3, s4⟩ := hbad (ixN none) 2 (by omega) (by omega)
        exact ⟨Y', s1, s2, s3, s4, fun z => absurd z hne⟩
      | some x =>
        have hx := (lst_some.mp eo).1
        rw [if_pos (show (0 : Int32) ≤ ixN (some x) from ge0 (by omega))]
        obtain ⟨Y', s1, s2, s3, s4, s5⟩ := t_j85 (fu := fu) (k := k) (x := x) h4 hlt hT0 ht hp hg hk (by omega)
        simp only [if_true]
        by_cases k0 : k = 0
        · simp only [if_pos k0] at s2 s5 ⊢
          refine ⟨Y', s1, s2, MkF_tr (ln4_F hp) s3, fun j hj => (s4 j (by omega)).trans (ln4_o hj), fun z => ?_⟩
          obtain ⟨z1, z2, z3⟩ := s5 z
          exact ⟨(s4 g (by omega)).trans ln4_0, z1, (z2 k0).1, (z2 k0).2⟩
        · simp only [if_neg k0] at s2 s5 ⊢
          refine ⟨Y', s1, s2, MkF_tr (ln4_F hp) s3, fun j hj => (s4 j (by omega)).trans (ln4_o hj), fun z => ?_⟩
          obtain ⟨z1, z2, z3⟩ := s5 z
          exact ⟨(s4 g (by omega)).trans ln4_0, z1, (z3 k0).1.trans ln4_2, (z3 k0).2.trans ln4_3⟩
  · rw [if_neg c]
    simp only [if_neg c]
    exact ⟨_, rfl, h4, ln4_F hp, fun j hj => ln4_o hj, fun _ => ⟨ln4_0, ln4_1, ln4_2, ln4_3⟩⟩
end
