/-! ===== a WORK's line, read: the class, together ===== -/
section
variable {M M' M1 N : xM} {X Y Y' : xT} {f : Nat → Nat} {fu l t T n i j k d s x a b w F e m : Nat} {c ls : List Nat} {q : Nat × Nat} {u v : Int32} {nm : Nat → List Nat} {D : Nat → Nat → Nat}
/-- four cells set -/
def lnM (M : xM) (w n k : Nat) : xM := sI (sI (sI (sI M 20 (10 + 4 * w + 0) n (i3 k)) 20 (10 + 4 * w + 1) n 0) 20 (10 + 4 * w + 2) n 0) 20 (10 + 4 * w + 3) n 0
theorem lnM_o (h : n ≠ 20 ∨ m < 10 + 4 * w ∨ 14 + 4 * w ≤ m ∨ j ≠ i) : gI (lnM M w i k) n m j = gI M n m j := by
  unfold lnM
  rw [gI_sI, if_neg (by omega), gI_sI, if_neg (by omega), gI_sI, if_neg (by omega), gI_sI, if_neg (by omega)]
theorem lnM_0 : gI (lnM M w n k) 20 (10 + 4 * w + 0) n = i3 k := by
  unfold lnM
  rw [gI_sI, if_neg (by omega), gI_sI, if_neg (by omega), gI_sI, if_neg (by omega), gI_sI, if_pos ⟨rfl, rfl, rfl⟩]
theorem lnM_1 : gI (lnM M w n k) 20 (10 + 4 * w + 1) n = 0 := by
  unfold lnM
  rw [gI_sI, if_neg (by omega), gI_sI, if_neg (by omega), gI_sI, if_pos ⟨rfl, rfl, rfl⟩]
theorem lnM_2 : gI (lnM M w n k) 20 (10 + 4 * w + 2) n = 0 := by
  unfold lnM
  rw [gI_sI, if_neg (by omega), gI_sI, if_pos ⟨rfl, rfl, rfl⟩]
theorem lnM_3 : gI (lnM M w n k) 20 (10 + 4 * w + 3) n = 0 := by
  unfold lnM
  rw [gI_sI, if_pos ⟨rfl, rfl, rfl⟩]
theorem lnM_F : WkF w M (lnM M w n k) := WkF_tr (WkF_20 (s := 10 + 4 * w + 0) (by omega)) (WkF_tr (WkF_20 (s := 10 + 4 * w + 1) (by omega)) (WkF_tr (WkF_20 (s := 10 + 4 * w + 2) (by omega)) (WkF_20 (s := 10 + 4 * w + 3) (by omega))))
theorem LnC_ln (h : LnC f t q M) : LnC f t q (lnM M w n k) := LnC_20 (LnC_20 (LnC_20 (LnC_20 h)))
/-- the line's table grows -/
theorem WkR_up (h : WkR w n D M) (h9 : gI M' 9 w 0 = i3 (n + 1)) (ho : ∀ j e, j < n → e < 4 → gI M' 20 (10 + 4 * w + e) j = gI M 20 (10 + 4 * w + e) j) {p : Nat × Nat × Nat × Nat} (h0 : gI M' 20 (10 + 4 * w + 0) n = i3 p.1) (h1 : gI M' 20 (10 + 4 * w + 1) n = i3 p.2.1) (h2 : gI M' 20 (10 + 4 * w + 2) n = i3 p.2.2.1) (h3 : gI M' 20 (10 + 4 * w + 3) n = i3 p.2.2.2) : WkR w (n + 1) (dUp D n p) M' := by
  refine ⟨h9, fun j hj e he => ?_⟩
  unfold dUp
  by_cases z : j = n
  · subst z
    rw [if_pos rfl]
    rcases (show e = 0 ∨ e = 1 ∨ e = 2 ∨ e = 3 by omega) with rfl | rfl | rfl | rfl
    · exact h0
    · exact h1
    · exact h2
    · exact h3
  · rw [if_neg z, ho j e (by omega) he]
    exact h.2 j (by omega) e he
theorem e_wline (h : LnC f t (0, i) M) (hN : NmC a F nm M) (ha : a < 2) (hw : w < 2) (hR : WkR w n D M) (hn : n ≤ 24) (hf : 1100 < fu) :
    ∃ M', F_X9_readLine fu w (some 0) (some a) M = some (bz (decide ((wlLn f t F nm n i).1 = 0)), M') ∧ LnC f t ((wlLn f t F nm n i).1, (wlLn f t F nm n i).2.1) M' ∧ WkF w M M' ∧ ((wlLn f t F nm n i).1 = 0 → n < 24 ∧ WkR w (n + 1) (dUp D n (wlLn f t F nm n i).2.2) M') := by
  have hA : AtC f t (tS f t i) M := h.2.1 rfl
  have hL := h.1.1
  have bad : ∀ k, 0 < k → ∃ M', ((F_X10_fail fu 0 (i3 k) M).bind fun p_3 => gd (xbool p_3.1) (some (p_3.1, p_3.2))) = some (bz (decide (k + 16 * tS f t i = 0)), M') ∧ LnC f t (k + 16 * tS f t i, i) M' ∧ WkF w M M' := fun k hk => by
    obtain ⟨M', r1, r2, r3⟩ := LnC_fail (fu := fu) (k := k) h hk
    refine ⟨M', ?_, r2, WkF_ny r3⟩
    rw [r1]
    simp only [Option.bind_some]
    rw [xb_f, gd_t, decide_eq_false (show ¬ (k + 16 * tS f t i = 0) by omega)]
    rfl
  unfold F_X9_readLine wlLn
  simp only [Option.bind_some]
  rcases ac_is hA with ⟨k, e1, e2, e3⟩ | ⟨e1, e2⟩
  · rw [e1, e3, if_neg (show ¬ i3 (k + 6) < 6 from fun z => by have := (i3_lt (b := 6) (by omega) (by omega)).mp z; omega), if_pos (show i3 (k + 6) ≤ 11 from (i3_le (b := 11) (by omega) (by omega)).mpr (by omega)), hR.1]
    by_cases c24 : n < 24
    · rw [if_pos (show i3 n < 24 from (i3_lt (b := 24) (by omega) (by omega)).mpr c24)]
      simp only [if_pos c24]
      have e9 : ∀ s u, gI (sI M 20 s n u) 9 w 0 = i3 n := fun s u => by rw [gI_sI, if_neg (by omega)]; exact hR.1
      have e9b : ∀ s u s' u', gI (sI (sI M 20 s n u) 20 s' n u') 9 w 0 = i3 n := fun s u s' u' => by rw [gI_sI, if_neg (by omega)]; exact e9 s u
      have e9c : ∀ s u s' u' s'' u'', gI (sI (sI (sI M 20 s n u) 20 s' n u') 20 s'' n u'') 9 w 0 = i3 n := fun s u s' u' s'' u'' => by rw [gI_sI, if_neg (by omega)]; exact e9b s u s' u'
      have hx : xin (i3 n) 24 = true := xin_i3 c24 (by omega)
      have hL1 : ∀ s u, Lay (sI M 20 s n u) := fun s u => hL
      have hL2 : ∀ s u s' u', Lay (sI (sI M 20 s n u) 20 s' n u') := fun s u s' u' => hL
      have hL3 : ∀ s u s' u' s'' u'', Lay (sI (sI (sI M 20 s n u) 20 s' n u') 20 s'' n u'') := fun s u s' u' s'' u'' => hL
      have e6 : i3 (k + 6) - 6 = i3 k := by rw [show (i3 (k + 6) - 6 : Int32) = i3 (k + 6 - 6) from i3_sub (b := 6) (by omega)]; rfl
      obtain ⟨M1, r1, r2, r3⟩ := LnC_nx (LnC_ln (w := w) (n := n) (k := k) h) hf
      have hN1 : NmC a F nm M1 := NmC_f (w := w) (NmC_f hN lnM_F) (WkF_ny r3)
      have h91 : gI M1 9 w 0 = i3 n := by rw [r3.2.2.2 _ _ _ (by omega), lnM_o (by omega)]; exact hR.1
      have h20 : ∀ s j, gI M1 20 s j = gI (lnM M w n k) 20 s j := fun s j => r3.2.2.2 _ _ _ (by omega)
      have hW1 : WkF w M M1 := WkF_tr lnM_F (WkF_ny r3)
      rw [l9_1 hL hw]
      simp only [Option.bind_some]
      rw [n_s0 hL hw, hx, gd_t, e6, xi_i3 (by omega), l9_2 (hL1 _ _) hw]
      simp only [Option.bind_some]
      rw [n_s1 (hL1 _ _) hw, e9, hx, gd_t, xi_i3 (by omega), l9_3 (hL2 _ _ _ _) hw]
      simp only [Option.bind_some]
      rw [n_s2 (hL2 _ _ _ _) hw, e9b, hx, gd_t, xi_i3 (by omega), l9_4 (hL3 _ _ _ _ _ _) hw]
      simp only [Option.bind_some]
      rw [n_s3 (hL3 _ _ _ _ _ _) hw, e9c, hx, gd_t, xi_i3 (by omega), show F_X10_next fu 0 (sI (sI (sI (sI M 20 (10 + 4 * w + 0) n (i3 k)) 20 (10 + 4 * w + 1) n 0) 20 (10 + 4 * w + 2) n 0) 20 (10 + 4 * w + 3) n 0) = _ from r1]
      simp only [Option.bind_some]
      have c0 : gI M1 20 (10 + 4 * w + 0) n = i3 k := (h20 _ _).trans lnM_0
      have c1 : gI M1 20 (10 + 4 * w + 1) n = 0 := (h20 _ _).trans lnM_1
      have c2 : gI M1 20 (10 + 4 * w + 2) n = 0 := (h20 _ _).trans lnM_2
      have c3 : gI M1 20 (10 + 4 * w + 3) n = 0 := (h20 _ _).trans lnM_3
      have hold : ∀ j e, j < n → e < 4 → gI M1 20 (10 + 4 * w + e) j = gI M 20 (10 + 4 * w + e) j := fun j e hj he => (h20 _ _).trans (lnM_o (by omega))
      unfold wlRest
      by_cases k3 : k ≤ 3
      · rw [if_neg (show ¬ (3 : Int32) < i3 k from fun z => by have := (i3_lt (a := 3) (by omega) (by omega)).mp z; omega), if_pos k3]
        obtain ⟨M2, s1, s2, s3, s4, s5, s6⟩ := e_readName (fu := fu) r2 hN1 ha hw h91 c24 hf
        rw [s1]
        simp only [Option.bind_some]
        generalize wlNam f t F nm (i + 1) = p at s2 s6 ⊢
        by_cases p0 : p.1 = 0
        · rw [if_pos p0, decide_eq_true p0, if_pos (show ¬ bz true = 0 from by decide)]
          have s2' : LnC f t (0, p.2.1) M2 := by
            have e : (p.1, p.2.1) = (0, p.2.1) := by rw [p0]
            rw [← e]; exact s2
          obtain ⟨M3, u1, u2, u3, u4, u5⟩ := e_wline107 (fu := fu) (k := k) s2' hw s5 c24 hf e2
          have f1 := s6 p0
          rw [u1]
          by_cases k0 : k = 0
          · simp only [if_pos k0] at u2 u5 ⊢
            refine ⟨M3, rfl, u2, WkF_tr hW1 (WkF_tr s3 u3), fun z => ⟨c24, ?_⟩⟩
            obtain ⟨z1, z2, z3⟩ := u5 z
            obtain ⟨z4, z5⟩ := z2 k0
            exact WkR_up hR z1 (fun j e hj he => by rw [u4 _ _ (by omega), s4 _ _ (by omega)]; exact hold j e hj he) (by rw [u4 _ _ (by omega), s4 _ _ (by omega)]; exact c0) (by rw [u4 _ _ (by omega)]; exact f1) z4 z5
          · simp only [if_neg k0] at u2 u5 ⊢
            refine ⟨M3, rfl, u2, WkF_tr hW1 (WkF_tr s3 u3), fun z => ⟨c24, ?_⟩⟩
            obtain ⟨z1, z2, z3⟩ := u5 z
            exact WkR_up hR z1 (fun j e hj he => by rw [u4 _ _ (by omega), s4 _ _ (by omega)]; exact hold j e hj he) (by rw [u4 _ _ (by omega), s4 _ _ (by omega)]; exact c0) (by rw [u4 _ _ (by omega)]; exact f1) (by rw [z3 k0, s4 _ _ (by omega)]; exact c2) (by rw [z3 k0, s4 _ _ (by omega)]; exact c3)
        · rw [if_neg p0, decide_eq_false p0, if_neg (show ¬ ¬ bz false = 0 from fun z => z rfl), xb_f, gd_t]
          exact ⟨M2, rfl, s2, WkF_tr hW1 s3, fun z => absurd z p0⟩
      · rw [if_pos (show (3 : Int32) < i3 k from (i3_lt (a := 3) (by omega) (by omega)).mpr (by omega)), if_neg k3]
        obtain ⟨M3, u1, u2, u3, u4, u5⟩ := e_wline107 (fu := fu) (k := k) r2 hw h91 c24 hf e2
        rw [u1]
        have k0 : ¬ k = 0 := by omega
        simp only [if_neg k0] at u2 u5 ⊢
        refine ⟨M3, rfl, u2, WkF_tr hW1 u3, fun z => ⟨c24, ?_⟩⟩
        obtain ⟨z1, z2, z3⟩ := u5 z
        exact WkR_up hR z1 (fun j e hj he => by rw [u4 _ _ (by omega)]; exact hold j e hj he) (by rw [u4 _ _ (by omega)]; exact c0) (by rw [u4 _ _ (by omega)]; exact c1) (by rw [z3 k0]; exact c2) (by rw [z3 k0]; exact c3)
    · rw [if_neg (show ¬ i3 n < 24 from fun z => c24 ((i3_lt (b := 24) (by omega) (by omega)).mp z))]
      simp only [if_neg c24]
      obtain ⟨M', b1, b2, b3⟩ := bad 5 (by omega)
      exact ⟨M', b1, b2, b3, fun z => by omega⟩
  · rw [e1]
    obtain ⟨M', b1, b2, b3⟩ := bad 1 (by omega)
    rcases e2 with e2 | ⟨e2, e3⟩
    · rw [if_pos e2]
      exact ⟨M', b1, b2, b3, fun z => by have z' : 1 + 16 * tS f t i = 0 := z; omega⟩
    · rw [if_neg e2, if_neg e3]
      exact ⟨M', b1, b2, b3, fun z => by have z' : 1 + 16 * tS f t i = 0 := z; omega⟩
end
