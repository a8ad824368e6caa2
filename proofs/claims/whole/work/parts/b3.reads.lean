/-! ===== calls that only look: both sides ===== -/
/-- what a look leaves of the reference -/
def FmS (D X X' : xT) : Prop := (∀ j k, (j = 0 ∧ (k = 2 ∨ k = 26) ∨ j = 1 ∨ j = 87 ∨ j = 90 ∨ j = 91 ∨ j = 92 ∨ j = 97) → X' j k = X j k) ∧ (∀ k, k < 1605 → X' 95 k = X 95 k) ∧ (X' 0 22 = i3 0 → Lk D X')
/-- as it was but for its survey -/
def Sv (E D : xT) : Prop := ∀ j k, j < 16 → j ≠ 10 → j ≠ 13 → (j ≠ 14 ∨ k ≠ 11 ∧ k ≠ 14 ∧ k ≠ 15) → E j k = D j k
section
variable {M M' : xM} {D E X X' : xT} {C : xC} {R Bv S : Nat → Int32} {d e fu n m i j o p q a c k l s w K P L L' b B B' f : Nat} {v x y r : Int32} {W A : Nat → Nat} {V : Nat → Nat → Int32}
theorem ge0 (h : a < 2147483648) : (0 : Int32) ≤ i3 a := of_eq_true (i3_0l h)
theorem Sv_rf : Sv D D := fun _ _ _ _ _ _ => rfl
theorem Sv_survey : Sv (surveyT D (C 0 0) (C 0 1)) D := fun j k h1 h2 h3 h4 => surveyT_lo (by omega)
theorem KE_survey : KE (surveyT D (C 0 0) (C 0 1)) D := fun j k h1 h2 => surveyT_lo (by omega)
theorem FmS_0 (hLk : X 0 22 = i3 0 → Lk D X) : FmS D X (up X 0 0 v) := ⟨fun j k h => up_ne (by omega), fun k hk => up_ne (by omega), up0_Lk hLk⟩
theorem FmS_lk : FmS D X (lkX (up X 0 0 v) 0 (i3 (fsN D), i3 (wpN D))) := by
  refine ⟨fun j k h => ?_, fun k hk => ?_, fun _ => Lk_lkX⟩
  · rw [lkX_o (by omega), up_ne (by omega)]
  · rw [lkX_o (by omega), up_ne (by omega)]
theorem FmS_gd (hLk : X 0 22 = i3 0 → Lk D X) (h : Gd C 0 D (up X 0 0 v) X') : FmS D X X' := by
  rcases h with h | h
  · rw [h]; exact FmS_0 hLk
  · rw [h]; exact FmS_lk
theorem op_cl {f g : xM → Option (Int32 × xM)} {N : xM} (hS : SimP C R a w n W V B M) (hf : f M = some (r, N)) (hg : ∃ X', g N = some (r, mmb X' N) ∧ FmS (tb 0 M) (tX M) X')
    (h2 : N.2 = M.2 ∨ (Lay N ∧ (∀ c s k, (c ≠ 2 ∨ s = 0 ∨ s = 3 ∨ s = 4) → gR N c s k = gR M c s k) ∧ (∀ c s k, c ≠ 6 → gL N c s k = gL M c s k))) (hb : BsEq M N)
    (h0 : Sv (tb 0 N) (tb 0 M)) (hV : InV C (tb 0 N)) (ht : ∀ d j k, 2 ≤ d → d < 5 → j < 16 → tb d N j k = tb d M j k) (hK : KE (tb 0 N) (tb 0 M)) : Both C R a w n W V B f g M := by
  obtain ⟨X', g1, g2, g3, g4⟩ := hg
  have hLay : Lay N ∧ (∀ c s k, (c ≠ 2 ∨ s = 0 ∨ s = 3 ∨ s = 4) → gR N c s k = gR M c s k) ∧ (∀ c s k, c ≠ 6 → gL N c s k = gL M c s k) := by
    rcases h2 with h2 | h2
    · exact ⟨(PBase_2 h2 hS.1).1, fun c s k _ => gR_2 h2, fun c s k _ => gL_2 h2⟩
    · exact h2
  have hbs : BsEq M (mmb X' N) := bs_tr hb bs_mmb
  have ht0 : tb 0 (mmb X' N) = tb 0 N := tb_mmb (by omega)
  have hx : ∀ j k, mrow j → tX (mmb X' N) j k = X' j k := fun j k hj => tX_mmb hj
  refine ⟨r, N, _, hf, g1, Sim_cl hS ⟨hLay.1, bsJ hbs, fun j k h1 h2 h3 h4 => by rw [ht0]; exact h0 j k h1 h2 h3 h4, by rw [ht0]; exact hV, fun d j k h1 h2 hj => by rw [tb_mmb h2]; exact ht d j k (by omega) h2 hj, hLay.2.1, fun s k _ => hLay.2.2 _ _ _ (by omega)⟩ ⟨fun j k h1 h2 => ?_, fun k hk => (hx 95 k (mrow_of (by omega))).trans (g3 k hk)⟩ (fun q => ?_) ?_⟩
  · exact (hx j k (mrow_of (by omega))).trans (g2 j k (by omega))
  · rw [hx 0 22 (mrow_of (by omega))] at q
    have := g4 q
    unfold Lk at this ⊢
    rw [hx 0 20 (mrow_of (by omega)), hx 0 21 (mrow_of (by omega))]
    exact this
  · refine PJudge_cg hbs (fun j k hj => ?_) ?_ ?_ ((hx 0 26 (mrow_of (by omega))).trans (g2 0 26 (by omega))) (fun k => (hx 97 k (mrow_of (by omega))).trans (g2 97 k (by omega))) (fun s k _ => hLay.2.2 _ _ _ (by omega)) hS.2.2.2.2.2.2.2.2.2.2.2.2.1
    · rw [tb_mmb (by omega), tb_one (d := 2) (e := 0) (by omega) (by omega) (by omega), hK j k (by omega) (by omega), tb_one (d := 2) (e := 0) (by omega) (by omega) (by omega)]
    · rw [tb_mmb (by omega)]; exact ht 2 15 3 (by omega) (by omega) (by omega)
    · rw [tb_mmb (by omega)]; exact ht 2 14 3 (by omega) (by omega) (by omega)
theorem op_read {f g : xM → Option (Int32 × xM)} (hS : SimP C R a w n W V B M) (hf : f M = some (r, emb 0 E M)) (hE : Sv E (tb 0 M)) (hV : InV C E) (hK : KE E (tb 0 M))
    (hg : ∀ M1, Lay M1 → ∃ X', g (mmb (tX M) M1) = some (r, mmb X' M1) ∧ FmS (tb 0 M) (tX M) X') : Both C R a w n W V B f g M := by
  have h1 := hg (emb 0 E M) hS.1.1
  rw [mX_emb (by omega)] at h1
  have ht : ∀ j k, j < 29 → tb 0 (emb 0 E M) j k = E j k := fun j k hj => tb_own (by omega) hj
  refine op_cl hS hf h1 (Or.inl rfl) (bs_emb (by omega)) (fun j k q1 q2 q3 q4 => by rw [ht j k (by omega)]; exact hE j k q1 q2 q3 q4) (InV_lo (fun j k hj => ht j k (by omega)) hV) (fun d j k q1 q2 q3 => tb_oth q2 (by omega) (by omega) q3) (fun j k q1 q2 => by rw [ht j k (by omega)]; exact hK j k q1 q2)
/-- a look that leaves the class's world as it is -/
theorem op_same {f g : xM → Option (Int32 × xM)} (hS : SimP C R a w n W V B M) (hf : f M = some (r, M)) (hg : ∀ M1, Lay M1 → ∃ X', g (mmb (tX M) M1) = some (r, mmb X' M1) ∧ FmS (tb 0 M) (tX M) X') : Both C R a w n W V B f g M := by
  obtain ⟨L, l1, l2, l3, l4, l5, l6⟩ := hS.2.2.2.2.2.2.1
  refine op_read (E := tb 0 M) hS (by rw [emb_tb]; exact hf) Sv_rf l3 KE_rf hg
theorem op_pick (hS : SimP C R a w n W V B M) (hf : 1100 < fu) : Both C R a w n W V B (F_X11_pick fu 0) (F_X12_pick fu 0) M := by
  obtain ⟨s1, s2, s3, s4, s5, s6, ⟨L, l1, l2, l3, l4, l5, l6⟩, s8, s9, s10, s11, s12, s13, s14, s15⟩ := id hS
  have h := s1.1
  have ew := e_picked (fu := fu) (M := M) (D := tb 0 M) (d := 0) (nb := C 0 0) (nw := C 0 1) h (by omega) l2.1 (by omega)
  rw [emb_tb] at ew
  have hE : (pickT (tb 0 M) (C 0 0) (C 0 1)).2 = tb 0 M ∨ (pickT (tb 0 M) (C 0 0) (C 0 1)).2 = surveyT (tb 0 M) (C 0 0) (C 0 1) := by
    unfold pickT
    split
    · exact Or.inl rfl
    · exact Or.inr rfl
  refine op_read (r := on (pickT (tb 0 M) (C 0 0) (C 0 1)).1) (E := (pickT (tb 0 M) (C 0 0) (C 0 1)).2) hS ?_ ?_ ?_ ?_ (fun M1 h1 => ?_)
  · unfold F_X11_pick
    rw [l11_0_6 h]
    simp only [Option.bind_some]
    rw [ew]
    rfl
  · rcases hE with q | q
    · rw [q]; exact Sv_rf
    · rw [q]; exact Sv_survey
  · rcases hE with q | q
    · rw [q]; exact l3
    · rw [q]; exact InV_survey s2 l3
  · rcases hE with q | q
    · rw [q]; exact KE_rf
    · rw [q]; exact KE_survey
  · unfold F_X12_pick
    simp only [sI_th]
    obtain ⟨X', k1, k2⟩ := t_pickOf (fu := fu) (M := M1) h1 (up0_M (v := 0) s4) (show 0 ≤ 2140 by omega) s2 (up0_Rel l4) l2 l3 (up0_Lk s8) (by omega)
    refine ⟨X', ?_, FmS_gd s8 k1⟩
    show (F_X12_pickOf fu 0 (i3 0) (mmb (up (tX M) 0 0 0) M1)).bind _ = _
    rw [k2]
    rfl
theorem op_gain (hS : SimP C R a w n W V B M) (hf : 1100 < fu) : Both C R a w n W V B (F_X11_gain fu 0) (F_X12_gain fu 0) M := by
  obtain ⟨s1, s2, s3, s4, s5, s6, ⟨L, l1, l2, l3, l4, l5, l6⟩, s8, s9, s10, s11, s12, s13, s14, s15⟩ := id hS
  have h := s1.1
  have h36 := tot36 s2
  have ew := e_picked (fu := fu) (M := M) (D := tb 0 M) (d := 0) (nb := C 0 0) (nw := C 0 1) h (by omega) l2.1 (by omega)
  rw [emb_tb] at ew
  have hp := fun k E (e : pickT (tb 0 M) (C 0 0) (C 0 1) = (some k, E)) => CI_begin s2 l2 l3 e
  have hE : (pickT (tb 0 M) (C 0 0) (C 0 1)).2 = tb 0 M ∨ (pickT (tb 0 M) (C 0 0) (C 0 1)).2 = surveyT (tb 0 M) (C 0 0) (C 0 1) := by
    unfold pickT
    split
    · exact Or.inl rfl
    · exact Or.inr rfl
  have hX := up0_Rel (v := 0) l4
  have hM0 := up0_M (v := 0) s4
  have hL0 := up0_Lk (v := 0) s8
  have tk := fun M1 (h1 : Lay M1) => t_pickOf (fu := fu) (M := M1) h1 hM0 (show 0 ≤ 2140 by omega) s2 hX l2 l3 hL0 (by omega)
  cases ho : pickT (tb 0 M) (C 0 0) (C 0 1) with
  | mk o E =>
    rw [ho] at ew hE
    simp only at ew hE
    have hE1 : Sv E (tb 0 M) := by
      rcases hE with q | q
      · rw [q]; exact Sv_rf
      · rw [q]; exact Sv_survey
    have hE2 : InV C E := by
      rcases hE with q | q
      · rw [q]; exact l3
      · rw [q]; exact InV_survey s2 l3
    have hE3 : KE E (tb 0 M) := by
      rcases hE with q | q
      · rw [q]; exact KE_rf
      · rw [q]; exact KE_survey
    cases o with
    | none =>
      refine op_read (r := -1) (E := E) hS ?_ hE1 hE2 hE3 (fun M1 h1 => ?_)
      · unfold F_X11_gain F_X2_gained
        rw [l11_0_6 h]
        simp only [Option.bind_some]
        rw [ew]
        rfl
      · unfold F_X12_gain
        simp only [sI_th]
        obtain ⟨X', k1, k2⟩ := tk M1 h1
        rw [ho] at k2
        refine ⟨X', ?_, FmS_gd s8 k1⟩
        show (F_X12_pickOf fu 0 (i3 0) (mmb (up (tX M) 0 0 0) M1)).bind _ = _
        rw [k2]
        rfl
    | some k =>
      obtain ⟨e1, hk, -, -⟩ := hp k E ho
      have hBk := blk (nw := C 0 1) hk
      have hT : tot C = C 0 0 * C 0 1 := rfl
      have ed := e_dirtyIn (fu := fu) (M := M) (D := E) (d := 0) h (by omega) (show k < 6 by have := s2.1; omega)
      rw [e1, dirty_eq s2 l2.1 l3 l2.2.2.2.2.2.2.2 hk] at ed
      refine op_read (r := i3 (diN (tb 0 M) (C 0 1) k)) (E := E) hS ?_ hE1 hE2 hE3 (fun M1 h1 => ?_)
      · unfold F_X11_gain F_X2_gained
        rw [l11_0_6 h]
        simp only [Option.bind_some]
        rw [ew]
        simp only [Option.bind_some]
        rw [show on (some k) = i3 k from rfl, if_pos (ge0 (by have := s2.1; omega)), e1, ed]
        rfl
      · unfold F_X12_gain
        simp only [sI_th]
        obtain ⟨X', k1, k2⟩ := tk M1 h1
        rw [ho] at k2
        obtain ⟨r1, r2, r3, r4⟩ := Gd_rel hX hM0 hL0 k1
        have tt := t_tally (fu := fu) (M := M1) (f := k * C 0 1) (m := C 0 1) (w := 2) h1 r2 (show 0 ≤ 2140 by omega) s2 r1 l2.2.1 l2.2.2.1 l2.2.2.2.1 l2.2.2.2.2.2.1 r3 (by omega) (by omega) (by omega)
        rw [r4] at tt
        refine ⟨lkX (up (tX M) 0 0 0) 0 (i3 (fsN (tb 0 M)), i3 (wpN (tb 0 M))), ?_, FmS_lk⟩
        show (F_X12_pickOf fu 0 (i3 0) (mmb (up (tX M) 0 0 0) M1)).bind _ = _
        rw [k2]
        simp only [Option.bind_some]
        rw [show on (some k) = i3 k from rfl, if_pos (ge0 (by have := s2.1; omega)), t_wide h1 r2]
        simp only [Option.bind_some]
        rw [t_wide h1 r2]
        simp only [Option.bind_some]
        rw [i3_mul, Nat.mul_comm, show (0 : Int32) = i3 0 from rfl, show (2 : Int32) = i3 2 from rfl, tt]
        rfl
theorem op_may (hS : SimP C R a w n W V B M) (hf : 1100 < fu) : Both C R a w n W V B (F_X11_may fu 0 x y) (F_X12_may fu 0 x y) M := by
  obtain ⟨s1, s2, s3, s4, s5, s6, ⟨L, l1, l2, l3, l4, l5, l6⟩, s8, s9, s10, s11, s12, s13, s14, s15⟩ := id hS
  have h := s1.1
  have ew := e_mayWrite (fu := fu) (M := M) (D := tb 0 M) (d := 0) (x := x) (y := y) h (by omega) s1.2.1 s3 l5 (by omega)
  rw [emb_tb] at ew
  have hX := up0_Rel (v := 0) l4
  have hM0 := up0_M (v := 0) s4
  have tk := fun M1 (h1 : Lay M1) => t_mayWrite (fu := fu) (M := M1) (x := x) (y := y) h1 hM0 (show 0 ≤ 2140 by omega) s2 hX l2.2.2.2.2.1 (by omega)
  cases hm : mayB C (tb 0 M) x y with
  | false =>
    rw [hm] at ew
    refine op_same (r := 0) hS ?_ (fun M1 h1 => ⟨_, ?_, FmS_0 (v := 0) s8⟩)
    · unfold F_X11_may
      rw [l11_0_6 h]
      simp only [Option.bind_some]
      rw [ew]
      rfl
    · unfold F_X12_may
      simp only [sI_th]
      have k1 := tk M1 h1
      rw [hm] at k1
      show (F_X12_mayWriteBut fu 0 (i3 0) x y (mmb (up (tX M) 0 0 0) M1)).bind _ = _
      rw [k1]
      rfl
  | true =>
    rw [hm] at ew
    obtain ⟨f, p, hf', hp, rfl, rfl, -, -⟩ := mayB_is s2 hm
    have c4 := (s2.2.2.2.2.2 f hf').2.2
    have er := e_hasRoom (fu := fu) (M := M) (D := tb 0 M) (d := 0) h (by omega) s1.2.1 s3 l5 (by omega) hf' (show p < 4 by omega)
    rw [emb_tb] at er
    refine op_same (r := bz (roomB C (tb 0 M) f p)) hS ?_ (fun M1 h1 => ⟨_, ?_, FmS_0 (v := 0) s8⟩)
    · unfold F_X11_may
      rw [l11_0_6 h]
      simp only [Option.bind_some]
      rw [ew]
      simp only [Option.bind_some, bz_0]
      rw [if_neg (by decide), l11_0_6 h]
      simp only [Option.bind_some]
      rw [er]
      simp only [Option.bind_some, bz_0]
      cases roomB C (tb 0 M) f p <;> rfl
    · unfold F_X12_may
      simp only [sI_th]
      have k1 := tk M1 h1
      rw [hm] at k1
      show (F_X12_mayWriteBut fu 0 (i3 0) (i3 f) (i3 p) (mmb (up (tX M) 0 0 0) M1)).bind _ = _
      rw [k1]
      simp only [Option.bind_some, bz_0]
      have k2 : F_X12_hasRoom fu 0 0 (i3 f) (i3 p) (mmb (up (tX M) 0 0 0) M1) = some (bz (roomB C (tb 0 M) f p), mmb (up (tX M) 0 0 0) M1) := t_hasRoom (b := 0) h1 hM0 (show 0 ≤ 2140 by omega) s2 hX l2.2.2.2.2.1 l2.2.2.2.2.2.2.2 (by omega) hf' (by omega)
      rw [if_neg (by decide), k2]
      simp only [Option.bind_some]
      cases roomB C (tb 0 M) f p <;> rfl
end
