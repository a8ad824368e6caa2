/-! ===== a WORK, read: the reference, all ===== -/
section
variable {M M' M1 N : xM} {X Y Y' Y1 : xT} {f : Nat → Nat} {fu l t T n i j k d s x a b w F e m g : Nat} {c ls : List Nat} {q : Nat × Nat} {u v y0 : Int32} {nm : Nat → List Nat} {D : Nat → Nat → Nat} {C : xC}
theorem wlLn_le (hT0 : tS f t T = t) (hY : LnX f t T ((wlLn f t F nm n i).1, (wlLn f t F nm n i).2.1) Y N) : (wlLn f t F nm n i).2.1 ≤ T := hY.1.2.2.2.2.2.2.2.2.2.2.1
theorem t_wloop (hT0 : tS f t T = t) (ht : t ≤ 1000) (hF : C 0 3 = F) (hN : NmX 0 F nm N) (hf : 1100 < fu) : ∀ m n l i D Y, n + m = 25 → n ≤ 24 → m < l → LnX f t T (0, i) Y N → i ≤ T → MCfg C Y → MkR n D Y →
    ∃ n' Y', L_X12_work_11 fu l 0 (i3 n) (mmb Y N) = J_X12_work_98 fu 0 (i3 n') (mmb Y' N) ∧ LnX f t T ((wrP f t F nm m n D i).1, (wrP f t F nm m n D i).2.1) Y' N ∧ MkF Y Y' ∧ ((wrP f t F nm m n D i).1 = 0 → n' = (wrP f t F nm m n D i).2.2.1 ∧ n' ≤ 24 ∧ MkR n' (wrP f t F nm m n D i).2.2.2 Y') := by
  intro m
  induction m with
  | zero => intro n l i D Y h1 h2; omega
  | succ m ih =>
    intro n l i D Y hnm hn hl h hi hC hR
    obtain ⟨l, rfl⟩ : ∃ k, l = k + 1 := ⟨l - 1, by omega⟩
    rw [wl11_0 h hf hn]
    unfold wrP
    by_cases c : tkT f t (tS f t i) = 0
    · rw [if_pos c, if_pos c]
      exact ⟨n, Y, rfl, h, MkF_rf, fun _ => ⟨rfl, hn, hR⟩⟩
    · rw [if_neg c, if_neg c]
      obtain ⟨l, rfl⟩ : ∃ k, l = k + 1 := ⟨l - 1, by omega⟩
      have hlt := tok_lt hT0 hi c
      have bad : ∀ k, 0 < k → k ≤ 5 → ∃ Y', ((F_X12_wrong fu 0 (i3 k) (mmb Y N)).bind fun p_6 => (F_X12_takeSign fu 0 59 p_6).bind fun p_7 => L_X12_work_11 fu (l + 1) 0 (i3 n) p_7) = J_X12_work_98 fu 0 (i3 n) (mmb Y' N) ∧ LnX f t T (k + 16 * tS f t i, i) Y' N ∧ MkF Y Y' := fun k hk hk5 => by
        obtain ⟨Y', r1, r2, r3⟩ := LnX_fail (fu := fu) (k := k) h hk hk5 ht
        have hne : (k + 16 * tS f t i, i).1 ≠ 0 := by show k + 16 * tS f t i ≠ 0; omega
        refine ⟨Y', ?_, r2, MkF_xn r3⟩
        rw [r1]
        simp only [Option.bind_some]
        rw [t_takeSgF r2 hne]
        simp only [Option.bind_some]
        exact wl11_F r2 hne
      cases e : acO f t (tS f t i) with
      | none =>
        have ew : wlLn f t F nm n i = (1 + 16 * tS f t i, i, 0, 0, 0, 0) := by unfold wlLn; rw [e]
        rw [ew]
        have hne : ¬ (1 + 16 * tS f t i = 0) := by omega
        simp only [if_neg hne]
        obtain ⟨Y', r1, r2, r3⟩ := bad 1 (by omega) (by omega)
        exact ⟨n, Y', r1, r2, r3, fun z => absurd z hne⟩
      | some k =>
        have hk := (acO_some e).1
        by_cases c24 : n < 24
        · have ew : wlLn f t F nm n i = wlRest f t F nm k (i + 1) := by
            unfold wlLn; rw [e]
            exact if_pos c24
          rw [ew]
          simp only [if_pos c24]
          obtain ⟨r1, r2⟩ := LnX_nx h hlt
          obtain ⟨Y1, s1, s2, s3, s4, s5⟩ := t_readWork (fu := fu) (g := 100 + 4 * n) (k := k) r1 hlt hT0 ht (by omega) (by omega) hk (MCfg_mk hC (MkF_xn r2)) hF hN hf
          rw [s1]
          simp only [Option.bind_some]
          have hok := (wlRest_ok (f := f) (t := t) (F := F) (nm := nm) (k := k) (i := i + 1)).1
          generalize wlRest f t F nm k (i + 1) = p at s2 s5 hok ⊢
          by_cases p0 : p.1 = 0
          · rw [if_pos p0]
            have s2' : LnX f t T (0, p.2.1) Y1 N := by
              have e : (p.1, p.2.1) = (0, p.2.1) := by rw [p0]
              rw [← e]; exact s2
            have hp2 : p.2.1 ≤ T := s2.1.2.2.2.2.2.2.2.2.2.2.1
            obtain ⟨Y2, u1, u2, u3⟩ := t_takeSg (fu := fu) (w := 59) s2' hp2 hT0 ht (by omega)
            rw [show F_X12_takeSign fu 0 59 (mmb Y1 N) = _ from u1]
            simp only [Option.bind_some]
            have hg2 : (tkSg f t p.2.1 59).2 ≤ T := u2.1.2.2.2.2.2.2.2.2.2.2.1
            have hF2 : MkF Y Y2 := MkF_tr (MkF_xn r2) (MkF_tr s3 (MkF_xn u3))
            have hR2 : MkR (n + 1) (dUp D n p.2.2) Y2 := by
              obtain ⟨z0, z1, z2, z3⟩ := s5 p0
              refine MkR_x (MkR_up (MkR_x hR r2) (fun j hj => s4 j (by omega)) z0 z1 z2 z3) u3
            generalize tkSg f t p.2.1 59 = g at u2 hg2 ⊢
            by_cases g0 : g.1 = 0
            · rw [if_pos g0]
              have u2' : LnX f t T (0, g.2) Y2 N := by
                have e : g = (0, g.2) := by rw [← g0]
                rw [← e]; exact u2
              obtain ⟨n', Y3, v1, v2, v3, v4⟩ := ih (n + 1) (l + 1) g.2 (dUp D n p.2.2) Y2 (by omega) (by omega) (by omega) u2' hg2 (MCfg_mk hC hF2) hR2
              exact ⟨n', Y3, v1, v2, MkF_tr hF2 v3, v4⟩
            · rw [if_neg g0]
              exact ⟨n + 1, Y2, wl11_F u2 g0, u2, hF2, fun z => absurd z g0⟩
          · rw [if_neg p0, t_takeSgF s2 p0]
            simp only [Option.bind_some]
            exact ⟨n + 1, Y1, wl11_F s2 p0, s2, MkF_tr (MkF_xn r2) s3, fun z => absurd z p0⟩
        · have ew : wlLn f t F nm n i = (5 + 16 * tS f t i, i, 0, 0, 0, 0) := by
            unfold wlLn; rw [e]
            exact if_neg c24
          rw [ew]
          simp only [if_neg c24]
          have hne : ¬ (5 + 16 * tS f t i = 0) := by omega
          simp only [if_neg hne]
          obtain ⟨Y', r1, r2, r3⟩ := bad 5 (by omega) (by omega)
          exact ⟨n, Y', r1, r2, r3, fun z => absurd z hne⟩
/-- the table copied, from its j-th cell on not yet -/
def cp4 (Y : xT) (m j : Nat) : xT := fun a b => if a = 92 ∧ 1 ≤ b ∧ b ≤ j ∧ b ≤ m then Y 92 (99 + b) else Y a b
theorem t_w119 (h : Lay N) (hn : n ≤ 24) (hf : 100 < fu) : L_X12_work_119 fu fu 0 (i3 n) 0 (mmb Y N) = some (0, mmb (up (cp4 Y (4 * n) (4 * n)) 0 26 0) N) := by
  have e0 : cp4 Y (4 * n) 0 = Y := by
    funext a b
    unfold cp4
    rw [if_neg (by omega)]
  have key := lpc (fun l k (x : xT) => L_X12_work_119 fu l 0 (i3 n) (i3 k) (mmb x N)) (fun k => cp4 Y (4 * n) k) (4 * n) (some (0, mmb (up (cp4 Y (4 * n) (4 * n)) 0 26 0) N)) ?_ ?_ fu 0 (by omega) (by omega)
  · simp only [e0] at key
    exact key
  · intro l k hk
    show L_X12_work_119 fu (l + 1) 0 (i3 n) (i3 k) (mmb (cp4 Y (4 * n) k) N) = L_X12_work_119 fu l 0 (i3 n) (i3 (k + 1)) (mmb (cp4 Y (4 * n) (k + 1)) N)
    conv => lhs; unfold L_X12_work_119
    rw [show (4 : Int32) * i3 n = i3 (4 * n) from i3_mul 4 n, if_neg (fun q => by have := (i3_le (by omega) (by omega)).mp q; omega), gr14 h]
    simp only [Option.bind_some]
    rw [show (100 : Int32) + i3 k = i3 (100 + k) from i3_add 100 k, show (1 : Int32) + i3 k = i3 (1 + k) from i3_add 1 k, gd92 h (by omega), gd92 h (by omega), xi_i3 (by omega), xi_i3 (by omega), m_92, p_92, i3_add1]
    congr 2
    funext a b
    rw [up_at]
    unfold cp4
    by_cases c1 : a = 92 ∧ b = 1 + k
    · obtain ⟨rfl, rfl⟩ := c1
      rw [if_pos ⟨rfl, rfl⟩, if_neg (by omega), if_pos (by omega), show 99 + (1 + k) = 100 + k by omega]
    · rw [if_neg c1]
      by_cases c2 : a = 92 ∧ 1 ≤ b ∧ b ≤ k ∧ b ≤ 4 * n
      · rw [if_pos c2, if_pos (by omega)]
      · rw [if_neg c2, if_neg (by omega)]
  · intro l
    show L_X12_work_119 fu (l + 1) 0 (i3 n) (i3 (4 * n)) (mmb (cp4 Y (4 * n) (4 * n)) N) = _
    conv => lhs; unfold L_X12_work_119
    rw [show (4 : Int32) * i3 n = i3 (4 * n) from i3_mul 4 n, if_pos (Int32.le_refl _), xb_f, gd_t, p_0]
theorem t_w98 (h : LnX f t T (0, i) Y N) (hn : n ≤ 24) (hf : 100 < fu) : J_X12_work_98 fu 0 (i3 n) (mmb Y N) = some (0, mmb (up (cp4 (up Y 92 0 (i3 n)) (4 * n) (4 * n)) 0 26 0) N) := by
  have hL := h.1.1
  unfold J_X12_work_98
  rw [if_pos (by rw [x8_le h]), gr14 hL]
  simp only [Option.bind_some]
  rw [show (0 : Int32) = i3 0 from rfl, gd92 hL (by omega), xi_i3 (by omega), p_92]
  exact t_w119 hL hn hf
theorem t_w98F (h : LnX f t T q Y N) (h0 : q.1 ≠ 0) : J_X12_work_98 fu 0 u (mmb Y N) = some (i3 q.1, mmb Y N) := by
  unfold J_X12_work_98
  rw [if_neg (by rw [x8_le h]; exact h0), m_0, h.1.2.2.2.2.2.2.2.2.2.2.2]
end
