/-! ===== the law's loop ===== -/
section
variable {M : xM} {scr : Nat → Int32} {L n i fu B : Nat}
theorem law_loop (hf9 : fu = 100000) (hL : L ≤ 3584) : ∀ n i M, SimS (8 * i) M → 7 * i ≤ L → L < 7 * (i + n) → ∃ M', L_L_law_23 fu scr L n (some 0) (some 0) (some 7) (i3 (7 * i)) M = some (1, M') := by
  have hf : 1100 < fu := by omega
  intro n
  induction n with
  | zero => intro i M _ h1 h2; omega
  | succ n ih =>
    intro i M hSim h1 h2
    by_cases c : 7 * i + 7 ≤ L
    · have hl : ¬ Int32.ofNat L - 7 < i3 (7 * i) := by
        rw [show Int32.ofNat L - 7 = i3 (L - 7) from i3_sub (b := 7) (by omega)]
        intro z
        have := (i3_lt (by omega) (by omega)).mp z
        omega
      have hx : ∀ j, j < 7 → xin (i3 (7 * i + j)) L = true := fun j hj => xin_i3 (by omega) (by omega)
      have ih2 : ∀ M2, SimS (8 * i + 8) M2 → ∃ M', L_L_law_23 fu scr L n (some 0) (some 0) (some 7) (i3 (7 * i) + 7) M2 = some (1, M') := fun M2 hS2 => by
        rw [show i3 (7 * i) + 7 = i3 (7 * (i + 1)) from (i3_add (7 * i) 7).trans (by rw [show 7 * i + 7 = 7 * (i + 1) by omega])]
        exact ih (i + 1) M2 (by rw [show 8 * (i + 1) = 8 * i + 8 by omega]; exact hS2) (by omega) (by omega)
      obtain ⟨C, R, a, w, n0, W, V, hS⟩ := id hSim
      by_cases c0 : scr (xi (i3 (7 * i))) &&& 63 = 0
      · exact lw_0 hl hx c0 (Bo_of (op_feed hS hf) (by omega)) ih2
      by_cases c1 : scr (xi (i3 (7 * i))) &&& 63 = 1
      · exact lw_1 hl hx c1 (by
          obtain ⟨r, M1, M2, C1, R1, a1, n1, g1, g2, g3⟩ := op_store hS hf
          exact ⟨r, M1, M2, g1, g2, C1, R1, a1, w, n1, W, V, SimP_up g3 (by omega)⟩) ih2
      by_cases c2 : scr (xi (i3 (7 * i))) &&& 63 = 2
      · exact lw_2 hl hx c2 (by
          obtain ⟨r, M1, M2, w1, n1, W1, V1, g1, g2, g3⟩ := op_work hS hf
          exact ⟨r, M1, M2, g1, g2, C, R, a, w1, n1, W1, V1, SimP_up g3 (by omega)⟩) ih2
      by_cases c3 : scr (xi (i3 (7 * i))) &&& 63 = 3
      · exact lw_3 hl hx c3 (Bo_of (op_slot hS hf) (by omega)) ih2
      by_cases c4 : scr (xi (i3 (7 * i))) &&& 63 = 4
      · exact lw_4 hl hx c4 (Bo_of (op_block hS hf) (by omega)) ih2
      by_cases c5 : scr (xi (i3 (7 * i))) &&& 63 = 5
      · exact lw_5 hl hx c5 (Bo_of (op_file hS hf) (by omega)) ih2
      by_cases c6 : scr (xi (i3 (7 * i))) &&& 63 = 6
      · exact lw_6 hl hx c6 (Bo_of (op_write hS (by omega) hf) (by omega)) ih2
      by_cases c7 : scr (xi (i3 (7 * i))) &&& 63 = 7
      · exact lw_7 hl hx c7 (Bo_of (op_remove hS (by omega) hf) (by omega)) ih2
      by_cases c8 : scr (xi (i3 (7 * i))) &&& 63 = 8
      · exact lw_8 hl hx c8 (Bo_of (op_open hS (by omega) hf) (by omega)) ih2
      by_cases c9 : scr (xi (i3 (7 * i))) &&& 63 = 9
      · exact lw_9 hl hx c9 (Bo_of (op_close hS (by omega) hf) (by omega)) ih2
      by_cases c10 : scr (xi (i3 (7 * i))) &&& 63 = 10
      · exact lw_10 hl hx c10 (Bo_of (op_commit hS (by omega) hf) (by omega)) ih2
      by_cases c11 : scr (xi (i3 (7 * i))) &&& 63 = 11
      · exact lw_11 hl hx c11 (Bo_of (op_collect hS (by omega) hf) (by omega)) ih2
      by_cases c12 : scr (xi (i3 (7 * i))) &&& 63 = 12
      · exact lw_12 hl hx c12 (Bo_of (op_cut hS (by omega) hf) (by omega)) ih2
      by_cases c13 : scr (xi (i3 (7 * i))) &&& 63 = 13
      · exact lw_13 hl hx c13 (Bo_of (op_mount hS (by omega) (by omega) hf) (by omega)) ih2
      by_cases c14 : scr (xi (i3 (7 * i))) &&& 63 = 14
      · exact lw_14 hl hx c14 (Bo_of (op_judged hS hf) (by omega)) ih2
      by_cases c15 : scr (xi (i3 (7 * i))) &&& 63 = 15
      · exact lw_15 hl hx c15 (Bo_of (op_says hS hf) (by omega)) ih2
      by_cases c16 : scr (xi (i3 (7 * i))) &&& 63 = 16
      · exact lw_16 hl hx c16 (Bo_of (op_may hS hf) (by omega)) ih2
      by_cases c17 : scr (xi (i3 (7 * i))) &&& 63 = 17
      · exact lw_17 hl hx c17 (Bo_of (op_spare hS hf) (by omega)) ih2
      by_cases c18 : scr (xi (i3 (7 * i))) &&& 63 = 18
      · exact lw_18 hl hx c18 (Bo_of (op_pick hS hf) (by omega)) ih2
      by_cases c19 : scr (xi (i3 (7 * i))) &&& 63 = 19
      · exact lw_19 hl hx c19 (Bo_of (op_gain hS hf) (by omega)) ih2
      by_cases c20 : scr (xi (i3 (7 * i))) &&& 63 = 20
      · exact lw_20 hl hx c20 (Bo_of (op_rounds hS hf) (by omega)) ih2
      by_cases c21 : scr (xi (i3 (7 * i))) &&& 63 = 21
      · exact lw_21 hl hx c21 (Bo_of (op_found hS hf (by omega)) (by omega)) ih2
      by_cases c22 : scr (xi (i3 (7 * i))) &&& 63 = 22
      · exact lw_22 hl hx c22 (Bo_of (op_agrees hS hf (by omega)) (by omega)) ih2
      by_cases c23 : scr (xi (i3 (7 * i))) &&& 63 = 23
      · exact lw_23 hl hx c23 (Bo_of (op_loses hS hf (by omega)) (by omega)) ih2
      by_cases c24 : scr (xi (i3 (7 * i))) &&& 63 = 24
      · exact lw_24 hl hx c24 (Bo_of (op_wear hS (by omega) hf) (by omega)) ih2
      by_cases c25 : scr (xi (i3 (7 * i))) &&& 63 = 25
      · exact lw_25 hl hx c25 (Bo_of (op_oldest hS hf) (by omega)) ih2
      by_cases c26 : scr (xi (i3 (7 * i))) &&& 63 = 26
      · exact lw_26 hl hx c26 (Bo_of (op_hot hS hf) (by omega)) ih2
      by_cases c27 : scr (xi (i3 (7 * i))) &&& 63 = 27
      · exact lw_27 hl hx c27 (Bo_of (op_copies hS hf) (by omega)) ih2
      by_cases c28 : scr (xi (i3 (7 * i))) &&& 63 = 28
      · exact lw_28 hl hx c28 (Bo_of (op_chain hS hf) (by omega)) ih2
      by_cases c29 : scr (xi (i3 (7 * i))) &&& 63 = 29
      · exact lw_29 hl hx c29 (Bo_of (op_after hS hf) (by omega)) ih2
      by_cases c30 : scr (xi (i3 (7 * i))) &&& 63 = 30
      · exact lw_30 hl hx c30 (Bo_of (op_ends hS hf) (by omega)) ih2
      by_cases c31 : scr (xi (i3 (7 * i))) &&& 63 = 31
      · exact lw_31 hl hx c31 (Bo_of (op_halves hS hf) (by omega)) ih2
      by_cases c32 : scr (xi (i3 (7 * i))) &&& 63 = 32
      · exact lw_32 hl hx c32 (fun v hv => Bo_of (op_see hS hv) (by omega)) ih2
      by_cases c33 : scr (xi (i3 (7 * i))) &&& 63 = 33
      · exact lw_33 hl hx c33 (Bo_of (op_cuts hS hf) (by omega)) ih2
      by_cases c34 : scr (xi (i3 (7 * i))) &&& 63 = 34
      · exact lw_34 hl hx c34 (Bo_of (op_look hS hf) (by omega)) ih2
      by_cases c35 : scr (xi (i3 (7 * i))) &&& 63 = 35
      · exact lw_35 hl hx c35 (by
          obtain ⟨k, b, M1, M2, g1, g2, g3, g4, g5, g6, g7⟩ := op_livesL hS hf
          exact ⟨k, b, M1, M2, g1, g2, g3, ⟨C, R, a, w, n0, W, V, SimP_up g4 (by omega)⟩, g5, g6, g7⟩) ih2
      by_cases c36 : scr (xi (i3 (7 * i))) &&& 63 = 36
      · exact lw_36 hl hx c36 (Bo_of (op_ages hS hf (by omega)) (by omega)) ih2
      by_cases c37 : scr (xi (i3 (7 * i))) &&& 63 = 37
      · exact lw_37 hl hx c37 (fun v hv => Bo_of (op_mark hS hf) (by omega)) ih2
      by_cases c38 : scr (xi (i3 (7 * i))) &&& 63 = 38
      · exact lw_38 hl hx c38 (Bo_of (op_count hS hf) (by omega)) ih2
      exact lw_d hl hx c0 c1 c2 c3 c4 c5 c6 c7 c8 c9 c10 c11 c12 c13 c14 c15 c16 c17 c18 c19 c20 c21 c22 c23 c24 c25 c26 c27 c28 c29 c30 c31 c32 c33 c34 c35 c36 c37 c38 ⟨C, R, a, w, n0, W, V, SimP_up hS (by omega)⟩ ih2
    · refine ⟨M, ?_⟩
      unfold L_L_law_23
      have hl : Int32.ofNat L - 7 < i3 (7 * i) := by
        by_cases c7 : 7 ≤ L
        · rw [show Int32.ofNat L - 7 = i3 (L - 7) from i3_sub (b := 7) c7]
          exact (i3_lt (by omega) (by omega)).mpr (by omega)
        · have hi0 : i = 0 := by omega
          subst hi0
          rcases (show L = 0 ∨ L = 1 ∨ L = 2 ∨ L = 3 ∨ L = 4 ∨ L = 5 ∨ L = 6 by omega) with rfl | rfl | rfl | rfl | rfl | rfl | rfl <;> decide
      rw [if_pos hl, xb_t, gd_t]
end
