/-! ===== a WORK, read: the class ===== -/
/-- all lines: fault, token, how many, the table -/
def wrP (f : Nat → Nat) (t F : Nat) (nm : Nat → List Nat) : Nat → Nat → (Nat → Nat → Nat) → Nat → Nat × Nat × Nat × (Nat → Nat → Nat)
  | 0, n, D, i => (0, i, n, D)
  | m + 1, n, D, i => if tkT f t (tS f t i) = 0 then (0, i, n, D) else
    if (wlLn f t F nm n i).1 = 0 then (if (tkSg f t (wlLn f t F nm n i).2.1 59).1 = 0 then wrP f t F nm m (n + 1) (dUp D n (wlLn f t F nm n i).2.2) (tkSg f t (wlLn f t F nm n i).2.1 59).2 else ((tkSg f t (wlLn f t F nm n i).2.1 59).1, (tkSg f t (wlLn f t F nm n i).2.1 59).2, n, D))
    else ((wlLn f t F nm n i).1, (wlLn f t F nm n i).2.1, n, D)
section
variable {M M' M1 N : xM} {X Y Y' : xT} {f : Nat → Nat} {fu l t T n i j k d s x a b w F e m : Nat} {c ls : List Nat} {q : Nat × Nat} {u v : Int32} {nm : Nat → List Nat} {D : Nat → Nat → Nat}
theorem e_wloop (ha : a < 2) (hw : w < 2) (hf : 1100 < fu) : ∀ m n l i D M, n + m = 25 → n ≤ 24 → m < l → LnC f t (0, i) M → NmC a F nm M → WkR w n D M →
    ∃ M', L_X9_read_13 fu l w (some 0) (some a) 1 (i3 n) M = some (bz (decide ((wrP f t F nm m n D i).1 = 0)), M') ∧ LnC f t ((wrP f t F nm m n D i).1, (wrP f t F nm m n D i).2.1) M' ∧ WkF w M M' ∧ ((wrP f t F nm m n D i).1 = 0 → (wrP f t F nm m n D i).2.2.1 ≤ 24 ∧ WkR w (wrP f t F nm m n D i).2.2.1 (wrP f t F nm m n D i).2.2.2 M') := by
  intro m
  induction m with
  | zero => intro n l i D M h1 h2; omega
  | succ m ih =>
    intro n l i D M hnm hn hl h hN hR
    obtain ⟨l, rfl⟩ : ∃ k, l = k + 1 := ⟨l - 1, by omega⟩
    have hA : AtC f t (tS f t i) M := h.2.1 rfl
    have hT5 : tkT f t (tS f t i) ≤ 4 := tkT_le
    have hhead : L_X9_read_13 fu (l + 1) w (some 0) (some a) 1 (i3 n) M = if tkT f t (tS f t i) = 0 then some (1, M) else (F_X9_readLine fu w (some 0) (some a) M).bind fun p_2 => if p_2.1 = 0 then L_X9_read_13 fu l w (some 0) (some a) 0 (i3 (n + 1)) p_2.2 else (F_X10_takeSign fu 0 59 p_2.2).bind fun p_4 => if p_4.1 = 0 then L_X9_read_13 fu l w (some 0) (some a) 0 (i3 (n + 1)) p_4.2 else L_X9_read_13 fu l w (some 0) (some a) 1 (i3 (n + 1)) p_4.2 := by
      conv => lhs; unfold L_X9_read_13
      rw [if_neg (show ¬ (24 : Int32) < i3 n from fun z => by have := (i3_lt (a := 24) (by omega) (by omega)).mp z; omega), if_neg (show ¬ (1 : Int32) = 0 by decide)]
      simp only [Option.bind_some]
      rw [hA.2.2.2.2.1, i3_add1]
      by_cases c : tkT f t (tS f t i) = 0
      · rw [if_pos (show i3 (tkT f t (tS f t i)) = 0 by rw [c]; rfl), if_pos c, xb_t, gd_t]
      · rw [if_neg (show ¬ i3 (tkT f t (tS f t i)) = 0 from fun z => c ((i3_eq (b := 0) (by omega) (by omega)).mp z)), if_neg c]
    have hstop : ∀ M1, L_X9_read_13 fu l w (some 0) (some a) 0 (i3 (n + 1)) M1 = some (0, M1) := fun M1 => by
      obtain ⟨l', rfl⟩ : ∃ k, l = k + 1 := ⟨l - 1, by omega⟩
      unfold L_X9_read_13
      by_cases c : (24 : Int32) < i3 (n + 1)
      · rw [if_pos c, xb_f, gd_t]
      · rw [if_neg c, if_pos rfl, xb_f, gd_t]
    rw [hhead]
    unfold wrP
    by_cases c : tkT f t (tS f t i) = 0
    · rw [if_pos c, if_pos c]
      exact ⟨M, rfl, h, WkF_ny NyF_rf, fun _ => ⟨hn, hR⟩⟩
    · rw [if_neg c, if_neg c]
      obtain ⟨M1, r1, r2, r3, r4⟩ := e_wline (fu := fu) h hN ha hw hR hn hf
      rw [r1]
      simp only [Option.bind_some]
      generalize wlLn f t F nm n i = p at r2 r4 ⊢
      by_cases p0 : p.1 = 0
      · obtain ⟨z1, z2⟩ := r4 p0
        have r2' : LnC f t (0, p.2.1) M1 := by
          have e : (p.1, p.2.1) = (0, p.2.1) := by rw [p0]
          rw [← e]; exact r2
        obtain ⟨M2, s1, s2, s3⟩ := e_takeSg (fu := fu) (w := 59) r2' hf (by omega)
        rw [if_pos p0, decide_eq_true p0, if_neg (show ¬ bz true = 0 from by decide), show F_X10_takeSign fu 0 59 M1 = _ from s1]
        simp only [Option.bind_some]
        have hR2 : WkR w (n + 1) (dUp D n p.2.2) M2 := ⟨(s3.2.2.2 _ _ _ (by omega)).trans z2.1, fun j hj e he => (s3.2.2.2 _ _ _ (by omega)).trans (z2.2 j hj e he)⟩
        generalize tkSg f t p.2.1 59 = g at s2 ⊢
        by_cases g0 : g.1 = 0
        · have s2' : LnC f t (0, g.2) M2 := by
            have e : g = (0, g.2) := by rw [← g0]
            rw [← e]; exact s2
          obtain ⟨M3, u1, u2, u3, u4⟩ := ih (n + 1) l g.2 (dUp D n p.2.2) M2 (by omega) (by omega) (by omega) s2' (NmC_f (NmC_f hN r3) (WkF_ny (w := w) s3)) hR2
          rw [if_pos g0, decide_eq_true g0, if_neg (show ¬ bz true = 0 from by decide)]
          exact ⟨M3, u1, u2, WkF_tr r3 (WkF_tr (WkF_ny s3) u3), u4⟩
        · rw [if_neg g0, decide_eq_false g0, if_pos (show bz false = 0 from rfl), hstop]
          exact ⟨M2, rfl, s2, WkF_tr r3 (WkF_ny s3), fun z => absurd z g0⟩
      · rw [if_neg p0, decide_eq_false p0, if_pos (show bz false = 0 from rfl), hstop]
        exact ⟨M1, rfl, r2, r3, fun z => absurd z p0⟩
/-- a WORK read, the class -/
theorem e_workRead (ha : a < 2) (hw : w < 2) (hf : 1100 < fu) (h : TpC f t M) (hN : NmC a F nm M) :
    ∃ M', F_X9_read fu w (some 0) (some a) M = some (bz (decide ((wrP f t F nm 25 0 (fun _ _ => 0) 0).1 = 0)), M') ∧ LnC f t ((wrP f t F nm 25 0 (fun _ _ => 0) 0).1, (wrP f t F nm 25 0 (fun _ _ => 0) 0).2.1) M' ∧ WkF w M M' ∧ ((wrP f t F nm 25 0 (fun _ _ => 0) 0).1 = 0 → (wrP f t F nm 25 0 (fun _ _ => 0) 0).2.2.1 ≤ 24 ∧ WkR w (wrP f t F nm 25 0 (fun _ _ => 0) 0).2.2.1 (wrP f t F nm 25 0 (fun _ _ => 0) 0).2.2.2 M') := by
  have hT : TpC f t (sI (sI (sI M 9 w 0 0) 10 0 9 0) 10 0 8 0) := TpC_s (TpC_s (TpC_9 h) (by omega)) (by omega)
  obtain ⟨M1, r1, r2, r3⟩ := e_next (fu := fu) (e := 0) hT (Nat.zero_le _) (by rw [gI_sI, if_pos ⟨rfl, rfl, rfl⟩]; rfl) hf
  have hW1 : WkF w M M1 := WkF_tr (M1 := sI M 9 w 0 0) WkF_9 (WkF_tr (M1 := sI (sI M 9 w 0 0) 10 0 9 0) (WkF_ny NyF_9) (WkF_tr (WkF_ny (NyF_nx (NxF_I (k := 8) (by omega)))) (WkF_ny (NyF_nx r3))))
  have h0 : LnC f t (0, 0) M1 := ⟨r2.1, fun _ => r2, fun q => absurd rfl q⟩
  have hR0 : WkR w 0 (fun _ _ => 0) M1 := ⟨by rw [r3.2.2.2 _ _ _ (by omega), gI_sI, if_neg (by omega), gI_sI, if_neg (by omega), gI_sI, if_pos ⟨rfl, rfl, rfl⟩]; rfl, fun j hj => absurd hj (Nat.not_lt_zero _)⟩
  obtain ⟨M2, s1, s2, s3, s4⟩ := e_wloop (fu := fu) (nm := nm) (F := F) ha hw hf 25 0 fu 0 (fun _ _ => 0) M1 (by omega) (by omega) (by omega) h0 (NmC_f (w := w) hN hW1) hR0
  refine ⟨M2, ?_, s2, WkF_tr hW1 s3, s4⟩
  · unfold F_X9_read F_X9_clear F_X10_begin
    simp only [Option.bind_some]
    rw [r1]
    simp only [Option.bind_some]
    exact s1
end
