/-! ===== an act by draws: the reference ===== -/
section
variable {M M' N N' : xM} {D E S T X X' : xT} {C : xC} {R : Nat → Int32} {d fu n m i j o p q a c k l s t w K P L L' b B B' f e F g : Nat} {u v x y r z : Int32} {nt : Bool} {W : Nat → Nat} {V : Nat → Nat → Int32}
/-- an act by draws, the reference -/
theorem t_agStep (h : Lay N) (hB : CB C) (hM : MCfg C X) (hU : RuleAs C R X) (hR : Rel C 1605 T X) (hI : Inv C L T) (hV : InV C T) (hL : L + 8 < 1000000) (hLk : X 0 22 = i3 1605 → Lk T X) (hF : 0 < C 0 3) {x : Nat} (hx : x < 2147483648) (hf : 1100 < fu) :
    ∃ X', F_X12_drawsDeed fu 0 (mmb X (sL N 12 0 28 (Int64.ofNat x))) = some (bz (didT C R a false T (agK (C 0 3) x T).1 (i3 (agK (C 0 3) x T).2.1) (i3 (agK (C 0 3) x T).2.2.1) (i3 (agK (C 0 3) x T).2.2.2.1)).1, mmb X' (sL N 12 0 28 (Int64.ofNat (agK (C 0 3) x T).2.2.2.2))) ∧
      Po false 1605 C T (didT C R a false T (agK (C 0 3) x T).1 (i3 (agK (C 0 3) x T).2.1) (i3 (agK (C 0 3) x T).2.2.1) (i3 (agK (C 0 3) x T).2.2.2.1)).2 X X' := by
  have c5 := hB.2.2.2.1
  have hO := hI.2.2.2.2.2.2.1
  have hlay : ∀ v : Int64, Lay (sL N 12 0 28 v) := fun v => h
  have hans : ∀ w : Int32, ∀ Z : xM, (if w = -1 then gd (xbool 0) (some ((0 : Int32), Z)) else gd (xbool 1) (some (1, Z))) = some (bz (! decide (w = -1)), Z) := by
    intro w Z
    by_cases c : w = -1
    · rw [if_pos c, decide_eq_true c, xb_f]; rfl
    · rw [if_neg c, decide_eq_false c, xb_t]; rfl
  have d8 := t_draw (fu := fu) (X := X) (N := N) (m := 8) hx (by omega) (by omega)
  have hk8 := drD_lt x 8 (by omega)
  unfold F_X12_drawsDeed
  rw [show (8 : Int32) = i3 8 from rfl, d8]
  simp only [Option.bind_some]
  unfold agK
  generalize drD x 8 = k at hk8 ⊢
  have hx1 := nxD_lt x
  generalize nxD x = x1 at hx1 ⊢
  by_cases k6 : k = 6
  · subst k6
    simp only [if_true]
    obtain ⟨X', w1, w2⟩ := t_commits (fu := fu) (M := sL N 12 0 28 (Int64.ofNat x1)) (b := 1605) (hlay _) hM (by omega) hB hR hI (by omega) hLk (by omega) false
    refine ⟨X', ?_, w2⟩
    rw [if_neg (by decide), show F_X12_commits fu 0 1605 (mmb X (sL N 12 0 28 (Int64.ofNat x1))) = _ from w1]
    exact hans _ _
  by_cases k7 : k = 7
  · subst k7
    simp only [show ¬ (7 : Nat) = 6 by decide, if_false, if_true]
    obtain ⟨X', w1, w2, w3, w4, w5, w6⟩ := t_collects (fu := fu) (M := sL N 12 0 28 (Int64.ofNat x1)) (b := 1605) (hlay _) hM (by omega) hB hR hI hV hLk (by omega) false
    refine ⟨X', ?_, w2, w3, w4, w5, w6⟩
    rw [if_pos (by decide), if_neg (by decide), show F_X12_collects fu 0 1605 (mmb X (sL N 12 0 28 (Int64.ofNat x1))) = _ from w1]
    exact hans _ _
  have k6' : ¬ i3 k = 6 := fun q => k6 ((i3_eq (b := 6) (by omega) (by omega)).mp q)
  have k7' : ¬ i3 k = 7 := fun q => k7 ((i3_eq (b := 7) (by omega) (by omega)).mp q)
  have dF := t_draw (fu := fu) (X := X) (N := N) (m := C 0 3) hx1 hF (by omega)
  have hfF := drD_lt x1 (C 0 3) hF
  simp only [k6, k7, if_false]
  rw [if_pos k6', if_pos k7', t_files (hlay _) hM]
  simp only [Option.bind_some]
  rw [dF]
  simp only [Option.bind_some]
  generalize drD x1 (C 0 3) = f at hfF ⊢
  have hx2 := nxD_lt x1
  generalize nxD x1 = x2 at hx2 ⊢
  by_cases k4 : k = 4
  · subst k4
    simp only [if_true]
    obtain ⟨X', w1, w2⟩ := t_removes (fu := fu) (M := sL N 12 0 28 (Int64.ofNat x2)) (b := 1605) (x := i3 f) (a := a) (hlay _) hM (by omega) hB hU hR hI hV hL hLk hf false
    refine ⟨X', ?_, w2⟩
    rw [if_neg (by decide), show F_X12_removes fu 0 1605 (i3 f) (mmb X (sL N 12 0 28 (Int64.ofNat x2))) = _ from w1]
    exact hans _ _
  by_cases k5 : k = 5
  · subst k5
    simp only [show ¬ (5 : Nat) = 4 by decide, if_false, if_true]
    have ko : F_X12_isOpen fu 0 1605 (i3 f) (mmb X (sL N 12 0 28 (Int64.ofNat x2))) = some (T 11 f, mmb X (sL N 12 0 28 (Int64.ofNat x2))) := t_isOpen (b := 1605) (hlay _) (by omega) hR (by omega)
    rw [if_pos (by decide), if_neg (by decide), ko]
    simp only [Option.bind_some]
    by_cases o1 : T 11 f = 0
    · simp only [o1, if_true]
      obtain ⟨X', w1, w2⟩ := Po_open2 (nt := false) (fu := fu) (M := sL N 12 0 28 (Int64.ofNat x2)) (b := 1605) (x := i3 f) (hlay _) hM (by omega) hB hR hI hLk (by omega)
      refine ⟨X', ?_, w2⟩
      rw [if_neg (fun q => q trivial), show F_X12_opens fu 0 1605 (i3 f) 1 (mmb X (sL N 12 0 28 (Int64.ofNat x2))) = _ from w1]
      simp only [Option.bind_some, bz_x, gd_t]
      rfl
    · simp only [o1, if_false]
      obtain ⟨X', w1, w2⟩ := Po_close2 (nt := false) (fu := fu) (M := sL N 12 0 28 (Int64.ofNat x2)) (b := 1605) (x := i3 f) (hlay _) hM (by omega) hB hR hI hLk (by omega)
      refine ⟨X', ?_, w2⟩
      rw [if_pos (fun q => q), show F_X12_opens fu 0 1605 (i3 f) 0 (mmb X (sL N 12 0 28 (Int64.ofNat x2))) = _ from w1]
      simp only [Option.bind_some, bz_x, gd_t]
      rfl
  have k4' : ¬ i3 k = 4 := fun q => k4 ((i3_eq (b := 4) (by omega) (by omega)).mp q)
  have k5' : ¬ i3 k = 5 := fun q => k5 ((i3_eq (b := 5) (by omega) (by omega)).mp q)
  have d4 := t_draw (fu := fu) (X := X) (N := N) (m := 4) hx2 (by omega) (by omega)
  have hx3 := nxD_lt x2
  simp only [k4, k5, if_false]
  have d256 := fun y hy => t_draw (fu := fu) (X := X) (N := N) (m := 256) (x := y) hy (by omega) (by omega)
  have hg := fun y => drD_lt y 256 (by omega)
  generalize drD x2 4 = p at d4 ⊢
  generalize nxD x2 = x3 at hx3 d4 ⊢
  obtain ⟨X', w1, w2⟩ := t_writes (fu := fu) (M := sL N 12 0 28 (Int64.ofNat (nxD x3))) (b := 1605) (x := i3 f) (y := i3 p) (g := drD x3 256) (a := a) (hlay _) hM (by omega) hB hU hR hI hV hL hLk hf (by have := hg x3; omega) false
  refine ⟨X', ?_, w2⟩
  rw [if_pos k4', if_pos k5']
  have hw : ∀ p_4, p_4 = (i3 p, mmb X (sL N 12 0 28 (Int64.ofNat x3))) → ((F_X12_draw fu 0 256 p_4.2).bind fun p_5 =>
          (F_X12_writes fu 0 1605 (i3 f) p_4.1 p_5.1 p_5.2).bind fun p_6 =>
          if p_6.1 = ((-1)) then
            gd (xbool 0) (some ((0 : Int32), p_6.2))
          else
            gd (xbool 1) (some (1, p_6.2))) = some (bz (! decide ((writeT C R a false T (i3 f) (i3 p) (i3 (drD x3 256))).1 = -1)), mmb X' (sL N 12 0 28 (Int64.ofNat (nxD x3)))) := by
    intro p_4 h4
    subst h4
    rw [show F_X12_draw fu 0 256 (mmb X (sL N 12 0 28 (Int64.ofNat x3))) = _ from d256 x3 hx3]
    rw [Option.bind_some]
    rw [show F_X12_writes fu 0 1605 (i3 f) (i3 p) (i3 (drD x3 256)) (mmb X (sL N 12 0 28 (Int64.ofNat (nxD x3)))) = _ from w1]
    exact hans _ _
  rw [show F_X12_draw fu 0 4 (mmb X (sL N 12 0 28 (Int64.ofNat x2))) = _ from d4, Option.bind_some]
  exact hw _ rfl
end
