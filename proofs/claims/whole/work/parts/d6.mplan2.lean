/-! ===== a FILE's line, read: the reference ===== -/
section
variable {M M' M1 N N' N1 : xM} {X Y Y' Y1 : xT} {f : Nat → Nat} {fu l t T n i j k d s x a b w F e m g lo hi p : Nat} {c ls : List Nat} {q : Nat × Nat} {u v y0 : Int32} {nm : Nat → List Nat} {S S' : plS} {y : Int64} {C : xC}
/-- the writes of a file -/
def flX (Y : xT) (F k p : Nat) : xT := up (up (up Y 90 (25 + 2 * F) (i3 k)) 90 (25 + 2 * F + 1) (i3 p)) 90 23 (i3 (F + 1))
theorem flX_F : PxF Y (flX Y F k p) := PxF_tr (PxF_90 (Y := Y) (k := 25 + 2 * F) (v := i3 k) (by omega)) (PxF_tr (PxF_90 (k := 25 + 2 * F + 1) (v := i3 p) (by omega)) (PxF_90 (k := 23) (v := i3 (F + 1)) (by omega)))
theorem flX_X (h : LnX f t T q Y N) : LnX f t T q (flX Y F k p) N := LnX_90 (LnX_90 (LnX_90 h))
theorem flX_o (h : j ≠ 25 + 2 * F ∧ j ≠ 25 + 2 * F + 1 ∧ j ≠ 23) : flX Y F k p 90 j = Y 90 j := by
  unfold flX
  rw [up_ne (by omega), up_ne (by omega), up_ne (by omega)]
theorem PlX_fl (h : PlX S Y N) (hF5 : S.1 0 3 < 5) (hn : gL N 21 4 (5 + S.1 0 3) = Int64.ofNat (enc 37 ls)) : PlX (flUp S ls k p) (flX Y (S.1 0 3) k p) N := by
  obtain ⟨h1, h2, h3, h4, h5⟩ := h
  have e0 : ∀ j i, j ≠ 90 → flX Y (S.1 0 3) k p j i = Y j i := fun j i hj => by
    unfold flX
    rw [up_ne (by omega), up_ne (by omega), up_ne (by omega)]
  refine ⟨fun j hj => ?_, (flX_o (by omega)).trans h2, fun j hj => ?_, fun z => ⟨(flX_o (by omega)).trans (h4 z).1, (e0 _ _ (by omega)).trans (h4 z).2⟩, fun z => ⟨(flX_o (by omega)).trans (h5 z).1, (e0 _ _ (by omega)).trans (h5 z).2.1, (e0 _ _ (by omega)).trans (h5 z).2.2.1, fun j hj => (e0 _ _ (by omega)).trans ((h5 z).2.2.2 j hj)⟩⟩
  · by_cases c : j = 3
    · rw [c, fl_3]; exact up_eq
    · rw [flX_o (by omega), fl_0 c]; exact h1 j hj
  · rw [fl_3] at hj
    by_cases c : j = S.1 0 3
    · rw [c, fl_1, fl_2, fl_n]
      refine ⟨?_, ?_, hn⟩
      · unfold flX; rw [up_ne (by omega), up_ne (by omega), up_eq]
      · unfold flX; rw [up_ne (by omega), up_eq]
    · rw [fl_1n c, fl_2n c, fl_nn c, flX_o (by omega), flX_o (by omega)]
      exact h3 j (by omega)
theorem flX_w (h : LnX f t T q Y N) (h23 : Y 90 23 = i3 F) (hF : F < 5) {v1 v2 : Int32} (e1 : v1 = i3 k) (e2 : v2 = i3 p) :
    ((gR (mmb Y N) 12 0 10).bind fun a_8 =>
      gd (xin (25 + (2 * i3 F)) (gN (mmb Y N) 20 a_8)) <|
      (gR (sI (mmb Y N) 20 a_8 (xi (25 + (2 * i3 F))) v1) 12 0 10).bind fun a_10 =>
      gd (xin ((25 + (2 * i3 F)) + 1) (gN (sI (mmb Y N) 20 a_8 (xi (25 + (2 * i3 F))) v1) 20 a_10)) <|
      (gR (sI (sI (mmb Y N) 20 a_8 (xi (25 + (2 * i3 F))) v1) 20 a_10 (xi ((25 + (2 * i3 F)) + 1)) v2) 12 0 10).bind fun a_12 =>
      gd (xin 23 (gN (sI (sI (mmb Y N) 20 a_8 (xi (25 + (2 * i3 F))) v1) 20 a_10 (xi ((25 + (2 * i3 F)) + 1)) v2) 20 a_12)) <|
      (gR (sI (sI (mmb Y N) 20 a_8 (xi (25 + (2 * i3 F))) v1) 20 a_10 (xi ((25 + (2 * i3 F)) + 1)) v2) 12 0 10).bind fun a_13 =>
      gd (xin 23 (gN (sI (sI (mmb Y N) 20 a_8 (xi (25 + (2 * i3 F))) v1) 20 a_10 (xi ((25 + (2 * i3 F)) + 1)) v2) 20 a_13)) <|
      some (sI (sI (sI (mmb Y N) 20 a_8 (xi (25 + (2 * i3 F))) v1) 20 a_10 (xi ((25 + (2 * i3 F)) + 1)) v2) 20 a_13 (xi 23) (gI (sI (sI (mmb Y N) 20 a_8 (xi (25 + (2 * i3 F))) v1) 20 a_10 (xi ((25 + (2 * i3 F)) + 1)) v2) 20 a_12 (xi 23) + 1))) = some (mmb (flX Y F k p) N) := by
  have hL := h.1.1
  have ea : (25 : Int32) + 2 * i3 F = i3 (25 + 2 * F) := by rw [show (2 : Int32) * i3 F = i3 (2 * F) from i3_mul 2 F, show (25 : Int32) + i3 (2 * F) = i3 (25 + 2 * F) from i3_add 25 (2 * F)]
  have eb : i3 (25 + 2 * F) + 1 = i3 (25 + 2 * F + 1) := i3_add1 _
  have e23 : (23 : Int32) = i3 23 := rfl
  rw [gr10 hL, ea]
  simp only [Option.bind_some]
  rw [gd90 hL (by omega), xi_i3 (by omega), p_90, gr10 hL]
  simp only [Option.bind_some]
  rw [eb, gd90 hL (by omega), xi_i3 (by omega), p_90, gr10 hL]
  simp only [Option.bind_some]
  rw [e23, gd90 hL (by omega), gd90 hL (by omega), xi_i3 (by omega), m_90, up_ne (by omega), up_ne (by omega), h23, i3_add1, p_90, e1, e2]
  rfl
theorem t_kind (h : LnX f t T (0, i) Y N) (hP : PlX S Y N) (hF5 : S.1 0 3 < 5) (hn : gL N 21 4 (5 + S.1 0 3) = Int64.ofNat (enc 37 ls)) (hi : i ≤ T) (hT0 : tS f t T = t) (ht : t ≤ 1000) (hf : 1100 < fu) :
    ∃ Y', ((F_X12_takeOne fu 0 12 4 (mmb Y N)).bind fun p_5 => (F_X12_takeWord fu 0 4 p_5.2).bind fun p_6 => (F_X12_takeNumber fu 0 1 4 p_6).bind fun p_7 => if ¬ (gI p_7.2 12 0 8) = 0 then some p_7.2 else
      (gR p_7.2 12 0 10).bind fun a_8 =>
      gd (xin (25 + (2 * i3 (S.1 0 3))) (gN p_7.2 20 a_8)) <|
      (gR (sI p_7.2 20 a_8 (xi (25 + (2 * i3 (S.1 0 3)))) p_5.1) 12 0 10).bind fun a_10 =>
      gd (xin ((25 + (2 * i3 (S.1 0 3))) + 1) (gN (sI p_7.2 20 a_8 (xi (25 + (2 * i3 (S.1 0 3)))) p_5.1) 20 a_10)) <|
      (gR (sI (sI p_7.2 20 a_8 (xi (25 + (2 * i3 (S.1 0 3)))) p_5.1) 20 a_10 (xi ((25 + (2 * i3 (S.1 0 3))) + 1)) p_7.1) 12 0 10).bind fun a_12 =>
      gd (xin 23 (gN (sI (sI p_7.2 20 a_8 (xi (25 + (2 * i3 (S.1 0 3)))) p_5.1) 20 a_10 (xi ((25 + (2 * i3 (S.1 0 3))) + 1)) p_7.1) 20 a_12)) <|
      (gR (sI (sI p_7.2 20 a_8 (xi (25 + (2 * i3 (S.1 0 3)))) p_5.1) 20 a_10 (xi ((25 + (2 * i3 (S.1 0 3))) + 1)) p_7.1) 12 0 10).bind fun a_13 =>
      gd (xin 23 (gN (sI (sI p_7.2 20 a_8 (xi (25 + (2 * i3 (S.1 0 3)))) p_5.1) 20 a_10 (xi ((25 + (2 * i3 (S.1 0 3))) + 1)) p_7.1) 20 a_13)) <|
      some (sI (sI (sI p_7.2 20 a_8 (xi (25 + (2 * i3 (S.1 0 3)))) p_5.1) 20 a_10 (xi ((25 + (2 * i3 (S.1 0 3))) + 1)) p_7.1) 20 a_13 (xi 23) (gI (sI (sI p_7.2 20 a_8 (xi (25 + (2 * i3 (S.1 0 3)))) p_5.1) 20 a_10 (xi ((25 + (2 * i3 (S.1 0 3))) + 1)) p_7.1) 20 a_12 (xi 23) + 1))) = some (mmb Y' N) ∧
      LnX f t T ((plKind f t S ls i).1, (plKind f t S ls i).2.1) Y' N ∧ PxF Y Y' ∧ ((plKind f t S ls i).1 = 0 → PlX (plKind f t S ls i).2.2 Y' N) := by
  unfold plKind
  rcases t_takeOne (fu := fu) h hi hT0 ht hf with ⟨k, e1, e2, e3, e4⟩ | ⟨e1, Y1, e2, e3, e4⟩
  · rw [e1, e4]
    simp only [Option.bind_some]
    obtain ⟨r1, r2⟩ := LnX_nx h e3
    obtain ⟨w1, w2⟩ := t_takeWord (fu := fu) (k := 4) r1 e3 hT0 ht (by omega)
    by_cases c4 : tkK f t (tS f t (i + 1)) = some 4
    · obtain ⟨g1, g2⟩ := w1 c4
      obtain ⟨s1, s2⟩ := LnX_nx r1 g1
      obtain ⟨Y2, u1, u2, u3⟩ := t_takeNu (fu := fu) (lo := 1) (hi' := 4) s1 (show i + 1 + 1 ≤ T by omega) hT0 ht (by omega) (by omega)
      have u1' : F_X12_takeNumber fu 0 1 4 (mmb (up (up Y 0 7 (i3 (i + 1))) 0 7 (i3 (i + 1 + 1))) N) = some (i3 (tkNu f t (i + 2) 1 4).2.2, mmb Y2 N) := u1
      have u2' : LnX f t T ((tkNu f t (i + 2) 1 4).1, (tkNu f t (i + 2) 1 4).2.1) Y2 N := u2
      have hX : XnF Y Y2 := XnF_tr r2 (XnF_tr s2 u3)
      have hP2 := PlX_x hP hX
      rw [show F_X12_takeWord fu 0 4 (mmb (up Y 0 7 (i3 (i + 1))) N) = _ from g2]
      simp only [Option.bind_some, if_pos c4]
      rw [u1']
      simp only [Option.bind_some]
      generalize tkNu f t (i + 2) 1 4 = p at u2' ⊢
      by_cases p0 : p.1 = 0
      · rw [if_neg (by rw [x8_0 u2']; exact fun z => z p0)]
        refine ⟨flX Y2 (S.1 0 3) k p.2.2, ?_, flX_X u2', PxF_tr (PxF_xn hX) flX_F, fun _ => PlX_fl hP2 hF5 hn⟩
        exact flX_w u2' (hP2.1 3 (by omega)) hF5 rfl rfl
      · rw [if_pos (by rw [x8_0 u2']; exact p0)]
        exact ⟨Y2, rfl, u2', PxF_xn hX, fun z => absurd z p0⟩
    · obtain ⟨Y2, g1, g2, g3⟩ := w2 c4
      have hne : ¬ (1 + 16 * tS f t (i + 1) = 0) := by omega
      rw [show F_X12_takeWord fu 0 4 (mmb (up Y 0 7 (i3 (i + 1))) N) = _ from g1]
      simp only [Option.bind_some, if_neg c4]
      rw [t_takeNuF g2 hne]
      simp only [Option.bind_some]
      rw [if_pos (by rw [x8_0 g2]; exact hne)]
      exact ⟨Y2, rfl, g2, PxF_xn (XnF_tr r2 g3), fun z => absurd z hne⟩
  · have hne : ¬ (1 + 16 * tS f t i = 0) := by omega
    rw [e1, e2]
    simp only [Option.bind_some]
    rw [t_takeWordF e3 hne]
    simp only [Option.bind_some]
    rw [t_takeNuF e3 hne]
    simp only [Option.bind_some]
    rw [if_pos (by rw [x8_0 e3]; exact hne)]
    exact ⟨Y1, rfl, e3, PxF_xn e4, fun z => absurd z hne⟩
end
