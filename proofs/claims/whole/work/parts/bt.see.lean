/-! ===== see: both sides ===== -/
section
variable {M M' M1 M3 N N' : xM} {D E S T X X' Y Z : xT} {C : xC} {R : Nat → Int32} {d fu n m i j o p q a c k l s t w K P L L' b b' B B' f e F g l0 : Nat} {u v x y r z lo hi hh ff : Int32} {gg Bv Sv : Nat → Int32} {nt : Bool} {W A : Nat → Nat} {V : Nat → Nat → Int32}
/-- one clue more, the class -/
def seM (M : xM) (m p : Nat) (v b : Int32) : xM := sI (sI (sI (sI M 20 44 m (i3 p)) 20 45 m v) 22 6 m b) 1 0 0 (i3 (m + 1))
/-- one clue more, the reference -/
def seX (X : xT) (m f p : Nat) (v b : Int32) : xT := up (up (up (up (up (up X 0 0 0) 95 (503 + 4 * m) (i3 f)) 95 (504 + 4 * m) (i3 p)) 95 (505 + 4 * m) v) 95 (506 + 4 * m) b) 95 502 (i3 (m + 1))
theorem e_add (h : Lay M) (hm : gI M 1 0 0 = i3 m) (hm8 : m < 8) (hb : v = 0 ∨ v = 1) : F_X1_add fu 0 (i3 p) z v M = some (1, seM M m p z v) := by
  have hx : xin (i3 m) 8 = true := xin_i3 hm8 (by omega)
  have hxb : xbool v = true := by rcases hb with q | q <;> rw [q] <;> rfl
  have l1 : gI (sI M 20 44 m (i3 p)) 1 0 0 = i3 m := by rw [gI_sI, if_neg (by omega)]; exact hm
  have l2 : gI (sI (sI M 20 44 m (i3 p)) 20 45 m z) 1 0 0 = i3 m := by rw [gI_sI, if_neg (by omega)]; exact l1
  have l3 : gI (sI (sI (sI M 20 44 m (i3 p)) 20 45 m z) 22 6 m v) 1 0 0 = i3 m := by rw [gI_sI, if_neg (by omega)]; exact l2
  have h1 : Lay (sI M 20 44 m (i3 p)) := h
  have h2 : Lay (sI (sI M 20 44 m (i3 p)) 20 45 m z) := h
  unfold F_X1_add
  rw [hm, if_pos (show i3 m < 8 from (i3_lt (b := 8) (by omega) (by omega)).mpr hm8), l1_0_1 h]
  simp only [Option.bind_some]
  rw [n20_44 h, hx, gd_t, xi_i3 (by omega), l1_0_2 h1]
  simp only [Option.bind_some]
  rw [l1, n20_45 h1, hx, gd_t, xi_i3 (by omega), l1_0_3 h2]
  simp only [Option.bind_some]
  rw [l2, n22_6 h2, hx, gd_t, hxb, gd_t, xi_i3 (by omega), l3, xb_t, gd_t, i3_add1]
  rfl
theorem e_addNo (hm : gI M 1 0 0 = i3 m) (hm8 : ¬ m < 8) (hm2 : m ≤ 8) : F_X1_add fu 0 x z v M = some (0, M) := by
  unfold F_X1_add
  rw [hm, if_neg (show ¬ i3 m < 8 from fun q => hm8 ((i3_lt (b := 8) (by omega) (by omega)).mp q)), xb_f, gd_t]
theorem t_add (h : Lay M) (hM : MCfg C X) (hB : CB C) (hp : isPageB C (i3 f) (i3 p) = true) (h1 : ¬ z < -1) (h2 : ¬ 255 < z) (hm : X 95 502 = i3 m) (hm8 : m < 8) (hb : v = 0 ∨ v = 1) : F_X12_see fu 0 (i3 f) (i3 p) z v (mmb X M) = some (1, mmb (seX X m f p z v) M) := by
  have e5 : up X 0 0 0 95 502 = i3 m := (up_ne (by omega)).trans hm
  have x1 : xin 502 2675 = true := by decide
  have x2 : xi (502 : Int32) = 502 := by decide
  have e8 : ¬ i3 m = 8 := fun q => by have := (i3_eq (b := 8) (by omega) (by omega)).mp q; omega
  have ei : (503 : Int32) + 4 * i3 m = i3 (503 + 4 * m) := by rw [show (4 : Int32) = i3 4 from rfl, i3_mul, show (503 : Int32) = i3 503 from rfl, i3_add]
  have a1 : i3 (503 + 4 * m) + 1 = i3 (504 + 4 * m) := by rw [show (1 : Int32) = i3 1 from rfl, i3_add]; congr 1; omega
  have a2 : i3 (503 + 4 * m) + 2 = i3 (505 + 4 * m) := by rw [show (2 : Int32) = i3 2 from rfl, i3_add]; congr 1; omega
  have a3 : i3 (503 + 4 * m) + 3 = i3 (506 + 4 * m) := by rw [show (3 : Int32) = i3 3 from rfl, i3_add]; congr 1; omega
  have g17 : ∀ Y : xT, gR (mmb Y M) 12 0 17 = some 95 := fun Y => gr17 h
  have n95 : ∀ Y : xT, gN (mmb Y M) 20 95 = 2675 := fun Y => n20_95 h
  have xx : ∀ k, k < 2675 → xin (i3 k) 2675 = true := fun k hk => xin_i3 hk (by omega)
  unfold F_X12_see
  simp only [sI_th]
  rw [t_isPage h (up0_M hM) hB, hp]
  simp only [Option.bind_some, bz_0]
  rw [if_neg (by decide), wi_t h1 h2]
  simp only [Option.bind_some]
  rw [if_neg (by decide), g17]
  simp only [Option.bind_some, n95, x1, gd_t, x2, m_95, e5]
  rw [if_pos e8, ei, xx _ (by omega), gd_t, xi_i3 (by omega)]
  simp only [p_95, g17, n95, Option.bind_some]
  rw [a1, xx _ (by omega), gd_t, a2, xx _ (by omega), gd_t, a3, xi_i3 (show 504 + 4 * m < 2147483648 by omega), xi_i3 (show 505 + 4 * m < 2147483648 by omega)]
  have e9 : up (up (up (up X 0 0 0) 95 (503 + 4 * m) (i3 f)) 95 (504 + 4 * m) (i3 p)) 95 (505 + 4 * m) z 95 502 = i3 m := by
    rw [up_ne (by omega), up_ne (by omega), up_ne (by omega)]; exact e5
  have hJ : J_X12_see_102 fu 0 v (i3 (506 + 4 * m)) (some 95) (mmb (up (up (up (up X 0 0 0) 95 (503 + 4 * m) (i3 f)) 95 (504 + 4 * m) (i3 p)) 95 (505 + 4 * m) z) M) = some (1, mmb (seX X m f p z v) M) := by
    unfold J_X12_see_102
    simp only [Option.bind_some, n95]
    rw [xx _ (by omega), gd_t, xi_i3 (by omega)]
    simp only [p_95, g17, n95, Option.bind_some, x1, x2, gd_t, m_95]
    rw [up_ne (by omega), e9, i3_add1, xb_t, gd_t]
    rfl
  rcases hb with rfl | rfl
  · rw [if_pos rfl]; exact hJ
  · rw [if_neg (by decide)]; exact hJ
theorem t_addNo (h : Lay M) (hM : MCfg C X) (hB : CB C) (hP : isPageB C x y = false ∨ z < -1 ∨ 255 < z ∨ X 95 502 = i3 8) : F_X12_see fu 0 x y z v (mmb X M) = some (0, mmb (up X 0 0 0) M) := by
  unfold F_X12_see
  simp only [sI_th]
  rw [t_isPage h (up0_M hM) hB]
  simp only [Option.bind_some, bz_0]
  cases c1 : isPageB C x y with
  | false => rw [if_pos rfl, xb_f, gd_t]
  | true =>
    rw [if_neg (by decide)]
    by_cases c2 : z < -1 ∨ 255 < z
    · rw [wi_f c2]
      simp only [Option.bind_some]
      rw [if_pos trivial, xb_f, gd_t]
    · rw [wi_t (fun q => c2 (Or.inl q)) (fun q => c2 (Or.inr q))]
      have h5 : X 95 502 = i3 8 := by
        rcases hP with q | q | q | q
        · rw [c1] at q; cases q
        · exact absurd (Or.inl q) c2
        · exact absurd (Or.inr q) c2
        · exact q
      have e5 : up X 0 0 0 95 502 = 8 := (up_ne (by omega)).trans h5
      simp only [Option.bind_some]
      rw [if_neg (by decide), gr17 h]
      simp only [Option.bind_some, gN_mmb]
      rw [n20_95 h, show xin 502 2675 = true by decide, gd_t, show xi (502 : Int32) = 502 by decide, m_95, e5, if_neg (fun q => q rfl), xb_f, gd_t]
end
