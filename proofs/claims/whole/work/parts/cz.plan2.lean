/-! ===== a FILE's line, read: the class ===== -/
section
variable {M M' M1 M5 N : xM} {X Y Y' Y1 : xT} {f : Nat → Nat} {fu l t T n i j k d s x a b w F e m g lo hi p : Nat} {c ls : List Nat} {q : Nat × Nat} {u v y0 : Int32} {nm : Nat → List Nat} {S S' : plS} {y : Int64} {C : xC}
theorem cUp_e : cUp C j k x j k = x := if_pos ⟨rfl, rfl⟩
theorem cUp_n (h : a ≠ j ∨ b ≠ k) : cUp C j k x a b = C a b := if_neg (by omega)
/-- a file more -/
def flUp (S : plS) (ls : List Nat) (k p : Nat) : plS := (cUp (cUp (cUp S.1 1 (S.1 0 3) k) 2 (S.1 0 3) p) 0 3 (S.1 0 3 + 1), nUp S.2.1 (S.1 0 3) ls, S.2.2.1, S.2.2.2)
theorem fl_0 (h : j ≠ 3) : (flUp S ls k p).1 0 j = S.1 0 j := by
  show cUp (cUp (cUp S.1 1 (S.1 0 3) k) 2 (S.1 0 3) p) 0 3 (S.1 0 3 + 1) 0 j = _
  rw [cUp_n (by omega), cUp_n (by omega), cUp_n (by omega)]
theorem fl_3 : (flUp S ls k p).1 0 3 = S.1 0 3 + 1 := cUp_e (C := cUp (cUp S.1 1 (S.1 0 3) k) 2 (S.1 0 3) p) (j := 0) (k := 3) (x := S.1 0 3 + 1)
theorem fl_1n (h : j ≠ S.1 0 3) : (flUp S ls k p).1 1 j = S.1 1 j := by
  show cUp (cUp (cUp S.1 1 (S.1 0 3) k) 2 (S.1 0 3) p) 0 3 (S.1 0 3 + 1) 1 j = _
  rw [cUp_n (by omega), cUp_n (by omega), cUp_n (by omega)]
theorem fl_1 : (flUp S ls k p).1 1 (S.1 0 3) = k := by
  show cUp (cUp (cUp S.1 1 (S.1 0 3) k) 2 (S.1 0 3) p) 0 3 (S.1 0 3 + 1) 1 (S.1 0 3) = _
  rw [cUp_n (by omega), cUp_n (by omega), cUp_e]
theorem fl_2n (h : j ≠ S.1 0 3) : (flUp S ls k p).1 2 j = S.1 2 j := by
  show cUp (cUp (cUp S.1 1 (S.1 0 3) k) 2 (S.1 0 3) p) 0 3 (S.1 0 3 + 1) 2 j = _
  rw [cUp_n (by omega), cUp_n (by omega), cUp_n (by omega)]
theorem fl_2 : (flUp S ls k p).1 2 (S.1 0 3) = p := by
  show cUp (cUp (cUp S.1 1 (S.1 0 3) k) 2 (S.1 0 3) p) 0 3 (S.1 0 3 + 1) 2 (S.1 0 3) = _
  rw [cUp_n (by omega), cUp_e]
theorem fl_nn (h : j ≠ S.1 0 3) : (flUp S ls k p).2.1 j = S.2.1 j := if_neg h
theorem fl_n : (flUp S ls k p).2.1 (S.1 0 3) = ls := if_pos rfl
/-- the four writes of a file -/
def flM (a F : Nat) (M : xM) (y : Int64) (k p : Nat) : xM := sI (sI (sI (sL M 21 a F y) 20 (5 * a + 0) F (i3 k)) 20 (5 * a + 1) F (i3 p)) 7 a 3 (i3 (F + 1))
theorem flM_F : PnF a M (flM a F M y k p) := PnF_tr (PnF_21 (M := M) (k := F) (y := y)) (PnF_tr (PnF_20 (s := 5 * a + 0) (by omega)) (PnF_tr (PnF_20 (s := 5 * a + 1) (by omega)) PnF_7))
theorem LnC_fl (h : LnC f t q M) : LnC f t q (flM a F M y k p) := LnC_7 (LnC_20 (LnC_20 (LnC_21 h)))
theorem PlC_fl (h : PlC a S M) : PlC a (flUp S ls k p) (flM a (S.1 0 3) M (Int64.ofNat (enc 32 ls)) k p) := by
  obtain ⟨h1, h2, h3, h4⟩ := h
  have e7 : ∀ j, gI (flM a (S.1 0 3) M (Int64.ofNat (enc 32 ls)) k p) 7 a j = if j = 3 then i3 (S.1 0 3 + 1) else gI M 7 a j := fun j => by
    unfold flM
    rw [gI_sI]
    by_cases c : j = 3
    · rw [if_pos ⟨rfl, rfl, c⟩, if_pos c]
    · rw [if_neg (fun z => c z.2.2), if_neg c, gI_sI, if_neg (by omega), gI_sI, if_neg (by omega), gI_sL]
  have eL : ∀ k', gL (flM a (S.1 0 3) M (Int64.ofNat (enc 32 ls)) k p) 21 a k' = if k' = S.1 0 3 then Int64.ofNat (enc 32 ls) else gL M 21 a k' := fun k' => by
    show gL (sL M 21 a (S.1 0 3) (Int64.ofNat (enc 32 ls))) 21 a k' = _
    rw [gL_sLo]
    by_cases c : k' = S.1 0 3
    · rw [if_pos ⟨rfl, rfl, c⟩, if_pos c]
    · rw [if_neg (fun z => c z.2.2), if_neg c]
  have e0 : ∀ k', gI (flM a (S.1 0 3) M (Int64.ofNat (enc 32 ls)) k p) 20 (5 * a + 0) k' = if k' = S.1 0 3 then i3 k else gI M 20 (5 * a + 0) k' := fun k' => by
    unfold flM
    rw [gI_sI, if_neg (by omega), gI_sI, if_neg (by omega), gI_sI]
    by_cases c : k' = S.1 0 3
    · rw [if_pos ⟨rfl, rfl, c⟩, if_pos c]
    · rw [if_neg (fun z => c z.2.2), if_neg c, gI_sL]
  have e1 : ∀ k', gI (flM a (S.1 0 3) M (Int64.ofNat (enc 32 ls)) k p) 20 (5 * a + 1) k' = if k' = S.1 0 3 then i3 p else gI M 20 (5 * a + 1) k' := fun k' => by
    unfold flM
    rw [gI_sI, if_neg (by omega), gI_sI]
    by_cases c : k' = S.1 0 3
    · rw [if_pos ⟨rfl, rfl, c⟩, if_pos c]
    · rw [if_neg (fun z => c z.2.2), if_neg c, gI_sI, if_neg (by omega), gI_sL]
  refine ⟨fun j hj => ?_, ?_, fun k' hk' => ?_, CdC_cg (fun k' => ?_) ?_ h4⟩
  · rw [e7]
    by_cases c : j = 3
    · rw [if_pos c, c, fl_3]
    · rw [if_neg c, fl_0 c]; exact h1 j hj
  · rw [e7, if_neg (by decide)]; exact h2
  · have hk2 : k' < S.1 0 3 + 1 := by rw [fl_3] at hk'; exact hk'
    rw [e0, e1, eL]
    by_cases c : k' = S.1 0 3
    · rw [if_pos c, if_pos c, if_pos c, c, fl_1, fl_2, fl_n]
      exact ⟨rfl, rfl, rfl⟩
    · rw [if_neg c, if_neg c, if_neg c, fl_1n c, fl_2n c, fl_nn c]
      exact h3 k' (by omega)
  · unfold flM
    rw [gI_sI, if_neg (by omega), gI_sI, if_neg (by omega), gI_sI, if_neg (by omega), gI_sL]
  · unfold flM
    rw [gI_sI, if_neg (by omega), gI_sI, if_neg (by omega), gI_sI, if_neg (by omega), gI_sL]
/-- the writes, as the class does them -/
theorem fl_w (hL : Lay M) (ha : a < 2) (h3 : gI M 7 a 3 = i3 F) (hF : F < 5) {v1 v2 : Int32} (e1 : v1 = i3 k) (e2 : v2 = i3 p) :
    ((gR M 7 a 7).bind fun a_24 =>
      gd (xin (gI M 7 a 3) (gN M 21 a_24)) <|
      (gR (sL M 21 a_24 (xi (gI M 7 a 3)) y) 7 a 4).bind fun a_26 =>
      gd (xin (gI (sL M 21 a_24 (xi (gI M 7 a 3)) y) 7 a 3) (gN (sL M 21 a_24 (xi (gI M 7 a 3)) y) 20 a_26)) <|
      (gR (sI (sL M 21 a_24 (xi (gI M 7 a 3)) y) 20 a_26 (xi (gI (sL M 21 a_24 (xi (gI M 7 a 3)) y) 7 a 3)) v1) 7 a 5).bind fun a_28 =>
      gd (xin (gI (sI (sL M 21 a_24 (xi (gI M 7 a 3)) y) 20 a_26 (xi (gI (sL M 21 a_24 (xi (gI M 7 a 3)) y) 7 a 3)) v1) 7 a 3) (gN (sI (sL M 21 a_24 (xi (gI M 7 a 3)) y) 20 a_26 (xi (gI (sL M 21 a_24 (xi (gI M 7 a 3)) y) 7 a 3)) v1) 20 a_28)) <|
      gd (xbool 1) (some ((1 : Int32), sI (sI (sI (sL M 21 a_24 (xi (gI M 7 a 3)) y) 20 a_26 (xi (gI (sL M 21 a_24 (xi (gI M 7 a 3)) y) 7 a 3)) v1) 20 a_28 (xi (gI (sI (sL M 21 a_24 (xi (gI M 7 a 3)) y) 20 a_26 (xi (gI (sL M 21 a_24 (xi (gI M 7 a 3)) y) 7 a 3)) v1) 7 a 3)) v2) 7 a 3 (gI (sI (sI (sL M 21 a_24 (xi (gI M 7 a 3)) y) 20 a_26 (xi (gI (sL M 21 a_24 (xi (gI M 7 a 3)) y) 7 a 3)) v1) 20 a_28 (xi (gI (sI (sL M 21 a_24 (xi (gI M 7 a 3)) y) 20 a_26 (xi (gI (sL M 21 a_24 (xi (gI M 7 a 3)) y) 7 a 3)) v1) 7 a 3)) v2) 7 a 3 + 1)))) = some (1, flM a F M y k p) := by
  have hL1 : Lay (sL M 21 a F y) := Lay_sL hL
  have hL2 : Lay (sI (sL M 21 a F y) 20 (5 * a + 0) F v1) := Lay_sI hL1
  have g1 : gI (sL M 21 a F y) 7 a 3 = i3 F := h3
  have g2 : gI (sI (sL M 21 a F y) 20 (5 * a + 0) F v1) 7 a 3 = i3 F := by rw [gI_sI, if_neg (by omega)]; exact h3
  have g3 : gI (sI (sI (sL M 21 a F y) 20 (5 * a + 0) F v1) 20 (5 * a + 1) F v2) 7 a 3 = i3 F := by rw [gI_sI, if_neg (by omega)]; exact g2
  rw [l7_7 hL ha]
  simp only [Option.bind_some]
  rw [n_nm hL ha, h3, xin_i3 hF (by omega), gd_t, xi_i3 (by omega), l7_4 hL1 ha]
  simp only [Option.bind_some]
  rw [n_p0 hL1 ha, g1, xin_i3 hF (by omega), gd_t, xi_i3 (by omega), l7_5 hL2 ha]
  simp only [Option.bind_some]
  rw [n_p1 hL2 ha, g2, xin_i3 hF (by omega), gd_t, xi_i3 (by omega), g3, xb_t, gd_t, i3_add1, e1, e2]
  rfl
end
