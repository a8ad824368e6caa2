section
variable {M : xM} {D E X Y Z T N X' E' E0 Tc : xT} {C : xC} {R G G' : Nat → Int32} {fu b d L L' s o t k n m i j p q f l w nb nw a r g c e B K P Q : Nat} {x y z v u : Int32} {nt : Bool} {W : Nat → Nat} {V : Nat → Nat → Int32} {kk : Nat → Int32 → xM → Option xM} {S : Nat → Nat → Nat → Nat} {S1 : Nat → Nat → Nat}
/-- behind the count ahead of line i the loop goes on -/
theorem t_runs22s (h : Lay M) (hB : CB C) (hf : 1100 < fu) (hin : i ≤ n) (hn : n ≤ 24) (hE : InE (startT C D) 0 0) (hS : R22 C R a n W V D X i Y) (hR : Rel C 1605 (wkN C R a W V D i) Y) (hLk : Y 0 22 = i3 1605 → Lk (wkN C R a W V D i) Y) (h6 : Y 95 1611 = i3 (wkP C R a W V D i)) :
    ∃ Z, L_X12_runs_22 fu (l + 1) 0 (i3 i) (mmb Y M) = (if i3 n ≤ i3 i then L_X12_runs_22 fu l 0 (i3 i + 1) (mmb Z (packM M 6 (3 * i) (wkS C R a W V D i) 3)) else (F_X12_doesLine fu 0 1605 (1 + 4 * i3 i) (mmb Z (packM M 6 (3 * i) (wkS C R a W V D i) 3))).bind fun p_9 => L_X12_runs_22 fu l 0 (i3 i + 1) p_9.2) ∧
      R22 C R a n W V D X (i + 1) Z ∧ Rel C 1605 (wkN C R a W V D i) Z ∧ (Z 0 22 = i3 1605 → Lk (wkN C R a W V D i) Z) ∧ Z 95 1611 = i3 (wkP C R a W V D i) := by
  obtain ⟨Z, m1, m2, m3, m4, m5, m6, m7⟩ := t_ahead (fu := fu) (M := M) h hB hf hin hn hE hS hR hLk h6
  have hM2 : Lay (packM M 6 (3 * i) (wkS C R a W V D i) 3) := packM_lay h
  refine ⟨up Z 97 i (i3 (wkP C R a W V D i)), ?_, R22_97 m4 rfl, Rel_95 m5 (fun k => up_ne (by omega)), fun e => ?_, (up_ne (by omega)).trans m7⟩
  · conv => lhs; unfold L_X12_runs_22
    have e0 := hS.2.2.1.1
    have e1 : up Z 97 i (i3 (wkP C R a W V D i)) 92 0 = i3 n := (up_ne (by omega)).trans m4.2.2.1.1
    have g14 : ∀ Y : xT, ∀ M : xM, Lay M → gR (mmb Y M) 12 0 14 = some 92 := fun Y M h => l12_0_14 h
    have g25 : ∀ Y : xT, ∀ M : xM, Lay M → gR (mmb Y M) 12 0 25 = some 97 := fun Y M h => l12_0_25 h
    have n92 : ∀ Y : xT, ∀ M : xM, Lay M → gN (mmb Y M) 20 92 = 200 := fun Y M h => n20_92 h
    have n97 : ∀ Y : xT, ∀ M : xM, Lay M → gN (mmb Y M) 20 97 = 25 := fun Y M h => n20_97 h
    have x0 : xin 0 200 = true := by decide
    have x0' : xi (0 : Int32) = 0 := by decide
    rw [g14 _ _ h]
    simp only [Option.bind_some]
    rw [n92 _ _ h, x0, gd_t, x0', m_92, e0, if_neg (fun q => by have := (i3_lt (by omega) (by omega)).mp q; omega), m1]
    simp only [Option.bind_some]
    rw [m2]
    simp only [Option.bind_some, gR_mmb]
    rw [l12_0_24 h, show (3 : Int32) * i3 i = i3 (3 * i) by rw [show (3 : Int32) = i3 3 from rfl, i3_mul], m3]
    simp only [Option.bind_some]
    rw [gr17 hM2]
    simp only [Option.bind_some]
    rw [show (1611 : Int32) = i3 1611 from rfl, gd95 hM2 (by omega), g25 _ _ hM2]
    simp only [Option.bind_some]
    rw [n97 _ _ hM2, xin_i3 (show i < 25 by omega) (by omega), gd_t, xi_i3 (by omega), xi_i3 (by omega), gi95, m7, p_97, g14 _ _ hM2]
    simp only [Option.bind_some]
    rw [n92 _ _ hM2, x0, gd_t, m_92, e1]
  · rw [up_ne (by omega)] at e
    have := m6 e
    exact ⟨(up_ne (by omega)).trans this.1, (up_ne (by omega)).trans this.2⟩
theorem t_runs22 (hB : CB C) (hf : 1100 < fu) (hn : n ≤ 24) (hE : InE (startT C D) 0 0) : ∀ m i l Y M, Lay M → i + m = n → m < l → R22 C R a n W V D X i Y → Rel C 1605 (wkN C R a W V D i) Y → (Y 0 22 = i3 1605 → Lk (wkN C R a W V D i) Y) → Y 95 1611 = i3 (wkP C R a W V D i) →
    ∃ Z, L_X12_runs_22 fu (l + 1) 0 (i3 i) (mmb Y (ahM (wkS C R a W V D) i M)) = L_X12_runs_112 fu fu 0 1 (mmb Z (ahM (wkS C R a W V D) (n + 1) M)) ∧ R22 C R a n W V D X (n + 1) Z := by
  intro m
  induction m with
  | zero =>
    intro i l Y M h hi hl hS hR hLk h6
    have e : i = n := by omega
    subst e
    obtain ⟨l, rfl⟩ : ∃ k, l = k + 1 := ⟨l - 1, by omega⟩
    obtain ⟨Z, k1, k2, k3, k4, k5⟩ := t_runs22s (l := l + 1) (fu := fu) (M := ahM (wkS C R a W V D) i M) (ahM_lay h i) hB hf (Nat.le_refl _) hn hE hS hR hLk h6
    refine ⟨Z, ?_, k2⟩
    rw [k1, if_pos (Int32.le_refl _), i3_add1]
    conv => lhs; unfold L_X12_runs_22
    have hM2 : Lay (ahM (wkS C R a W V D) (i + 1) M) := ahM_lay h (i + 1)
    have g14 : ∀ Y : xT, ∀ M : xM, Lay M → gR (mmb Y M) 12 0 14 = some 92 := fun Y M h => l12_0_14 h
    have n92 : ∀ Y : xT, ∀ M : xM, Lay M → gN (mmb Y M) 20 92 = 200 := fun Y M h => n20_92 h
    have x0 : xin 0 200 = true := by decide
    have x0' : xi (0 : Int32) = 0 := by decide
    show ((gR (mmb Z (ahM (wkS C R a W V D) (i + 1) M)) 12 0 14).bind _) = _
    rw [g14 _ _ hM2]
    simp only [Option.bind_some]
    show gd (xin 0 (gN (mmb Z (ahM (wkS C R a W V D) (i + 1) M)) 20 92)) _ = _
    rw [n92 _ _ hM2, x0, gd_t, x0', m_92, k2.2.2.1.1, if_pos ((i3_lt (by omega) (by omega)).mpr (by omega))]
    rfl
  | succ m ih =>
    intro i l Y M h hi hl hS hR hLk h6
    obtain ⟨l, rfl⟩ : ∃ k, l = k + 1 := ⟨l - 1, by omega⟩
    obtain ⟨Z, k1, k2, k3, k4, k5⟩ := t_runs22s (l := l + 1) (fu := fu) (M := ahM (wkS C R a W V D) i M) (ahM_lay h i) hB hf (show i ≤ n by omega) hn hE hS hR hLk h6
    obtain ⟨w0, w1, w2, w3, w4, g, w5, w6⟩ := k2.2.2.1.2.2 i (by omega)
    rw [w6] at w4
    obtain ⟨i1, i2⟩ := wk_Inv (R := R) (a := a) (W := W) (V := V) hB (Inv_startF (C := C) (D := D) hB) (InV_startF hB) (by omega) true i (by omega)
    obtain ⟨P, K, p1, p2, p3⟩ := wk_notes (R := R) (a := a) (W := W) (V := V) hB (Inv_startF (C := C) (D := D) hB) (InV_startF hB) (by omega) stF_142 (InE_stF hE) i (by omega)
    have eP : wkP C R a W V D i = P := (InE_P p2).symm
    rw [eP] at k5
    obtain ⟨X1, P', K', r1, r2, r3, r4, r5, r6, r7⟩ := t_line (fu := fu) (M := packM (ahM (wkS C R a W V D) i M) 6 (3 * i) (wkS C R a W V D i) 3) (b := 1605) (q := 1 + 4 * i) (a := a) (packM_lay (ahM_lay h i)) k2.1 (by omega) hB k2.2.1 k3 i1 i2 (by omega) k4 hf w5 w1 (by omega) w0 w2 w3 w4 p3 p2 (by omega) k5
    have e3 : wkN C R a W V D (i + 1) = fndW true C (didT C R a true (wkN C R a W V D i) (W i) (V i 0) (V i 1) (i3 g)).2 := by rw [← w6]; rfl
    have r6' : InE (wkN C R a W V D (i + 1)) P' K' := by rw [e3]; exact (InE_fnd r6 true).1
    have eP2 : wkP C R a W V D (i + 1) = P' := (InE_P r6').symm
    obtain ⟨Z2, s1, s2⟩ := ih (i + 1) l X1 M h (by omega) (by omega) (R22_fm k2 (by omega) r4) (by rw [e3]; exact Rel_lo r2 (fun j k hj => fndW_lo (by omega))) (by rw [e3]; exact fun e => Lk_cg (r5 e) (fndW_lo (by omega)) (fndW_lo (by omega))) (by rw [eP2]; exact r7)
    refine ⟨Z2, ?_, s2⟩
    have ei : (1 : Int32) + 4 * i3 i = i3 (1 + 4 * i) := by rw [show (4 : Int32) = i3 4 from rfl, i3_mul, show (1 : Int32) = i3 1 from rfl, i3_add]
    rw [k1, if_neg (fun q => by have := (i3_le (by omega) (by omega)).mp q; omega), ei, show (1605 : Int32) = i3 1605 from rfl]
    have r1' := r1
    rw [show F_X12_doesLine fu 0 (i3 1605) (i3 (1 + 4 * i)) (mmb Z (packM (ahM (wkS C R a W V D) i M) 6 (3 * i) (wkS C R a W V D i) 3)) = _ from r1]
    simp only [Option.bind_some]
    rw [i3_add1]
    exact s1
end
