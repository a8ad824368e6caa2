/-! ===== marks: both sides, the call ===== -/
section
variable {M M' M1 M3 N N' : xM} {D E S T X X' : xT} {C : xC} {R : Nat → Int32} {d fu n m i j o p q a c k l s t w K P L L' b b' B B' f e F g pd vd sd pe ve se c' s' : Nat} {u v x y r z lo hi : Int32} {nt : Bool} {W : Nat → Nat} {V : Nat → Nat → Int32}
/-- the world of the class behind a mark that is set -/
def svM (a m : Nat) (M : xM) : xM := sI (clM (emb (3 + m) (cpD (tb 0 M) (tb (3 + m) M)) (sR M 2 (3 + m) 4 (some a))) (1 + m) 0 (83 + 2 * m) (84 + 2 * m) (17 + m) 44 45 6) 22 19 m 1
/-- the world of the class behind a way back -/
def bkM (a m : Nat) (M : xM) : xM := clM (emb 0 (cpD (tb (3 + m) M) (tb 0 M)) (sR M 2 0 4 (some a))) 0 (1 + m) 44 45 6 (83 + 2 * m) (84 + 2 * m) (17 + m)
theorem e_markSave (h : Lay M) (hm : m < 2) (hp : gR M 2 0 4 = some a) (hx : tb 0 M 14 1 = 0 ∨ tb 0 M 14 1 = 1) : F_X11_mark fu 0 (i3 m) 0 M = some (1, svM a m M) := by
  obtain ⟨r1, r2, r3, r4, r5, r6, r7, r8⟩ := clue_ref h hm
  have ec := e_copy (fu := fu) (d := 3 + m) (e := 0) (T := tb (3 + m) M) h (by omega) (by omega) (by omega) rfl hx
  rw [emb_tb, hp] at ec
  have h2 : Lay (emb (3 + m) (cpD (tb 0 M) (tb (3 + m) M)) (sR M 2 (3 + m) 4 (some a))) := Lay_sR4 h
  obtain ⟨t1, t2, t3, t4, t5, t6, t7, t8⟩ := clue_ref h2 hm
  have eq := e_clue (fu := fu) (d := 1 + m) (e := 0) (l1_0_1 h2) (l1_0_2 h2) (l1_0_3 h2) t1 t2 t3 (n20_44 h2) (n20_45 h2) (n22_6 h2) t4 t5 t6
  have h3 : Lay (clM (emb (3 + m) (cpD (tb 0 M) (tb (3 + m) M)) (sR M 2 (3 + m) 4 (some a))) (1 + m) 0 (83 + 2 * m) (84 + 2 * m) (17 + m) 44 45 6) := h2
  have hxi : xin (i3 m) 2 = true := xin_i3 hm (by omega)
  have e2 : Int32.ofNat 2 = i3 2 := rfl
  unfold F_X11_mark
  rw [if_neg (fun q => (i3_nl (a := m) (by omega)).mp q), l11_0_13 h]
  simp only [Option.bind_some]
  rw [n22_19 h, e2, if_pos ((i3_lt (b := 2) (by omega) (by omega)).mpr hm), if_neg (fun q => q trivial), l11_0_11 h]
  simp only [Option.bind_some]
  rw [n24_0 h, hxi, gd_t, xi_i3 (by omega), r7]
  simp only [Option.bind_some]
  rw [l11_0_6 h, ec]
  simp only [Option.bind_some]
  rw [l11_0_12 h2]
  simp only [Option.bind_some]
  rw [n25_0 h2, hxi, gd_t, t8]
  simp only [Option.bind_some]
  rw [l11_0_8 h2, eq]
  simp only [Option.bind_some]
  rw [l11_0_13 h3]
  simp only [Option.bind_some]
  rw [n22_19 h3, hxi, gd_t, xb_t, gd_t, gd_t]
  rfl
theorem e_markBack (h : Lay M) (hm : m < 2) (hy : y ≠ 0) (hp : gR M 2 (3 + m) 4 = some a) (h1 : gI M 22 19 m ≠ 0) (hx : tb (3 + m) M 14 1 = 0 ∨ tb (3 + m) M 14 1 = 1) : F_X11_mark fu 0 (i3 m) y M = some (1, bkM a m M) := by
  obtain ⟨r1, r2, r3, r4, r5, r6, r7, r8⟩ := clue_ref h hm
  have ec := e_copy (fu := fu) (d := 0) (e := 3 + m) (T := tb 0 M) h (by omega) (by omega) (by omega) rfl hx
  rw [emb_tb, hp] at ec
  have h2 : Lay (emb 0 (cpD (tb (3 + m) M) (tb 0 M)) (sR M 2 0 4 (some a))) := Lay_sR4 h
  obtain ⟨t1, t2, t3, t4, t5, t6, t7, t8⟩ := clue_ref h2 hm
  have eq := e_clue (fu := fu) (d := 0) (e := 1 + m) t1 t2 t3 (l1_0_1 h2) (l1_0_2 h2) (l1_0_3 h2) t4 t5 t6 (n20_44 h2) (n20_45 h2) (n22_6 h2)
  have hxi : xin (i3 m) 2 = true := xin_i3 hm (by omega)
  have e2 : Int32.ofNat 2 = i3 2 := rfl
  unfold F_X11_mark
  rw [if_neg (fun q => (i3_nl (a := m) (by omega)).mp q), l11_0_13 h]
  simp only [Option.bind_some]
  rw [n22_19 h, e2, if_pos ((i3_lt (b := 2) (by omega) (by omega)).mpr hm), if_pos hy, hxi, gd_t, xi_i3 (by omega), if_pos h1, l11_0_11 h]
  simp only [Option.bind_some]
  rw [n24_0 h, hxi, gd_t, l11_0_6 h]
  simp only [Option.bind_some]
  rw [r7, ec]
  simp only [Option.bind_some]
  rw [l11_0_12 h2]
  simp only [Option.bind_some]
  rw [n25_0 h2, hxi, gd_t, l11_0_8 h2]
  simp only [Option.bind_some]
  rw [t8, eq]
  simp only [Option.bind_some, xb_t, gd_t]
  rfl
theorem e_markNo (h : Lay M) (hx : x < 0 ∨ ¬ x < 2 ∨ y ≠ 0 ∧ gI M 22 19 (xi x) = 0) : F_X11_mark fu 0 x y M = some (0, M) := by
  have e2 : Int32.ofNat 2 = 2 := rfl
  unfold F_X11_mark
  by_cases c : x < 0
  · rw [if_pos c, xb_f, gd_t]
  rw [if_neg c, l11_0_13 h]
  simp only [Option.bind_some]
  rw [n22_19 h, e2]
  by_cases c2 : x < 2
  · rw [if_pos c2]
    obtain ⟨hy, h0⟩ := (hx.resolve_left c).resolve_left (fun q => q c2)
    obtain ⟨m, hm, rfl⟩ := i3_of (Int32.not_lt.mp c)
    have hm2 := (i3_lt (b := 2) (by omega) (by omega)).mp c2
    have hxi : xin (i3 m) 2 = true := xin_i3 hm2 (by omega)
    rw [if_pos hy, hxi, gd_t, h0, if_neg (fun q => q rfl), xb_f, gd_t]
  · rw [if_neg c2, xb_f, gd_t]
end
