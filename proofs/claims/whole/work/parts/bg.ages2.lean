/-! ===== an act by draws: both sides ===== -/
section
variable {M M' N N' : xM} {D E S T X X' : xT} {C : xC} {R : Nat → Int32} {d fu n m i j o p q a c k l s t w K P L L' b B B' f e F g : Nat} {u v x y r z : Int32} {nt : Bool} {W : Nat → Nat} {V : Nat → Nat → Int32}
/-- an act by draws, the class -/
theorem e_agStep {kk : Nat → Option Nat → Int32 → Int32 → Int32 → Int32 → xM → Option (Int32 × xM)} (h : Lay N) (hB : CB C) (ha : a < 2) (hC : Cfg C R a N) (hp : gR N 2 1 4 = some a) (hI : Inv C L T) (hV : InV C T) (hL : L + 8 < 1000000) (h2 : T 14 2 = 0) (hF : 0 < C 0 3) {x : Nat} (hx : x < 2147483648) (hf : 1100 < fu) (hn : n < 1000) :
    ((F_X6_drawBelow fu 0 8 (emb 1 T (sL N 6 0 0 (Int64.ofNat x)))).bind fun p_1 =>
        if 6 ≤ p_1.1 then
          J_X6_run_57 fu kk 0 (some 1) u (i3 (C 0 3)) (i3 n) v p_1.1 0 p_1.2
        else
          (F_X6_drawBelow fu 0 (i3 (C 0 3)) p_1.2).bind fun p_2 =>
          J_X6_run_57 fu kk 0 (some 1) u (i3 (C 0 3)) (i3 n) v p_1.1 p_2.1 p_2.2) =
      kk 0 (some 1) u (i3 (C 0 3)) (i3 (if (didT C R a false T (agK (C 0 3) x T).1 (i3 (agK (C 0 3) x T).2.1) (i3 (agK (C 0 3) x T).2.2.1) (i3 (agK (C 0 3) x T).2.2.2.1)).1 then n + 1 else n)) (v + 1)
        (emb 1 (didT C R a false T (agK (C 0 3) x T).1 (i3 (agK (C 0 3) x T).2.1) (i3 (agK (C 0 3) x T).2.2.1) (i3 (agK (C 0 3) x T).2.2.2.1)).2 (sL N 6 0 0 (Int64.ofNat (agK (C 0 3) x T).2.2.2.2))) := by
  have c5 := hB.2.2.2.1
  have hO := hI.2.2.2.2.2.2.1
  have hlay : ∀ v : Int64, Lay (sL N 6 0 0 v) := fun v => h
  have hcfg : ∀ v : Int64, Cfg C R a (sL N 6 0 0 v) := fun v => hC
  have hgp : ∀ v : Int64, gR (sL N 6 0 0 v) 2 1 4 = some a := fun v => hp
  -- the deed itself
  have hact : ∀ (k f p g y : Nat), k < 6 → f < 5 → ∀ (o z : Int32), F_X6_actOf fu z (T 11 f) (emb 1 T (sL N 6 0 0 (Int64.ofNat y))) = some (i3 k, emb 1 T (sL N 6 0 0 (Int64.ofNat y))) →
      J_X6_run_93 fu kk 0 (some 1) u (i3 (C 0 3)) (i3 n) v z (i3 f) (i3 p) (i3 g) (emb 1 T (sL N 6 0 0 (Int64.ofNat y))) = kk 0 (some 1) u (i3 (C 0 3)) (i3 (if (didT C R a false T k (i3 f) (i3 p) (i3 g)).1 then n + 1 else n)) (v + 1) (emb 1 (didT C R a false T k (i3 f) (i3 p) (i3 g)).2 (sL N 6 0 0 (Int64.ofNat y))) := by
    intro k f p g y hk hf5 o z hz
    have eo := e_isOpen (fu := fu) (M := sL N 6 0 0 (Int64.ofNat y)) (D := T) (d := 1) (hlay _) (by omega) hO hf5
    have ea := e_act (fu := fu) (d := 1) (M := sL N 6 0 0 (Int64.ofNat y)) (D := T) (k := i3 k) (x := i3 f) (y := i3 p) (v := i3 g) (hlay _) (by omega) ha (hcfg _) (hgp _) ⟨hI.1, fun q => absurd q (by decide)⟩ hf
    rw [show decide (1 = 2) = false by decide, act_did hB hI hV hL h2 hk, ← did_2 hk] at ea
    unfold J_X6_run_93
    simp only [Option.bind_some]
    rw [eo]
    simp only [Option.bind_some]
    rw [hz]
    simp only [Option.bind_some]
    rw [ea]
    simp only [Option.bind_some, bz_0]
    cases (didT C R a false T k (i3 f) (i3 p) (i3 g)).1 with
    | false => rw [if_pos rfl, if_neg (by decide)]
    | true => rw [if_neg (by decide), if_pos rfl, i3_add1]
  have d8 := e_draw (fu := fu) (d := 1) (T := T) (N := N) (m := 8) hx (by omega) (by omega)
  rw [show (8 : Int32) = i3 8 from rfl, d8]
  simp only [Option.bind_some]
  have hk8 := drD_lt x 8 (by omega)
  unfold agK
  generalize drD x 8 = k at hk8 ⊢
  have hx1 := nxD_lt x
  generalize nxD x = x1 at hx1 ⊢
  by_cases k6 : k = 6
  · subst k6
    simp only [if_true]
    rw [if_pos (by decide)]
    unfold J_X6_run_57 J_X6_run_74
    rw [if_pos (by decide), if_pos (by decide)]
    exact hact 4 0 0 0 x1 (by omega) (by omega) 0 (i3 6) (by unfold F_X6_actOf; rw [if_neg (by decide), if_neg (by decide), if_pos (by decide)]; rfl)
  by_cases k7 : k = 7
  · subst k7
    rw [if_pos (by decide)]
    unfold J_X6_run_57 J_X6_run_74
    rw [if_pos (by decide), if_pos (by decide)]
    have := hact 5 0 0 0 x1 (by omega) (by omega) 0 (i3 7) (by unfold F_X6_actOf; rw [if_neg (by decide), if_neg (by decide), if_neg (by decide), if_pos (by decide)]; rfl)
    simp only [show ¬ (7 : Nat) = 6 by decide, if_false, if_true]
    exact this
  have dF := e_draw (fu := fu) (d := 1) (T := T) (N := N) (m := C 0 3) hx1 hF (by omega)
  have hfF := drD_lt x1 (C 0 3) hF
  rw [if_neg (fun q => by have := (i3_le (a := 6) (by omega) (by omega)).mp q; omega), dF]
  simp only [Option.bind_some]
  simp only [k6, k7, if_false]
  generalize drD x1 (C 0 3) = f at hfF ⊢
  have hx2 := nxD_lt x1
  generalize nxD x1 = x2 at hx2 ⊢
  by_cases k4 : k = 4
  · subst k4
    simp only [if_true]
    unfold J_X6_run_57 J_X6_run_74
    rw [if_pos (by decide), if_pos (by decide)]
    exact hact 1 f 0 0 x2 (by omega) (by omega) 0 (i3 4) (by unfold F_X6_actOf; rw [if_pos (by decide)]; rfl)
  by_cases k5 : k = 5
  · subst k5
    simp only [show ¬ (5 : Nat) = 4 by decide, if_false, if_true]
    unfold J_X6_run_57 J_X6_run_74
    rw [if_pos (by decide), if_pos (by decide)]
    by_cases o1 : T 11 f = 0
    · simp only [o1, if_true]
      exact hact 2 f 0 0 x2 (by omega) (by omega) 0 (i3 5) (by unfold F_X6_actOf; rw [if_neg (by decide), if_pos (by decide), if_pos o1]; rfl)
    · simp only [o1, if_false]
      exact hact 3 f 0 0 x2 (by omega) (by omega) 0 (i3 5) (by unfold F_X6_actOf; rw [if_neg (by decide), if_pos (by decide), if_neg o1]; rfl)
  simp only [k4, k5, if_false]
  have d4 := e_draw (fu := fu) (d := 1) (T := T) (N := N) (m := 4) hx2 (by omega) (by omega)
  have hx3 := nxD_lt x2
  unfold J_X6_run_57
  rw [if_neg (fun q => by have := (i3_le (a := 4) (by omega) (by omega)).mp q; omega), show (4 : Int32) = i3 4 from rfl, d4]
  simp only [Option.bind_some]
  generalize drD x2 4 = p
  generalize nxD x2 = x3 at hx3 ⊢
  have d256 := e_draw (fu := fu) (d := 1) (T := T) (N := N) (m := 256) hx3 (by omega) (by omega)
  unfold J_X6_run_74
  rw [if_neg (fun q => by have := (i3_le (a := 4) (by omega) (by omega)).mp q; omega), show (256 : Int32) = i3 256 from rfl, d256]
  simp only [Option.bind_some]
  exact hact 0 f p (drD x3 256) (nxD x3) (by omega) (by omega) 0 (i3 k) (actOf_0 k4 k5 k6 k7 hk8)
end
