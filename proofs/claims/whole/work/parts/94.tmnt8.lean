section
variable {M : xM} {D E X Y Z T P X' E' E0 E'' X'' : xT} {C : xC} {R N G G' : Nat → Int32} {fu b d L L' s o t k n m i j p q f l w nb nw a at' r g c e : Nat} {x y z v u : Int32} {nt : Bool}
/-- numbers, contents and commits look only at the nodes, the last number, the base -/
theorem In4_cg (hn : ∀ j k, 2 ≤ j → j ≤ 8 → E j k = D j k) (h10 : E 14 10 = D 14 10) (h5 : E 15 5 = D 15 5) (h6 : E 15 6 = D 15 6) (hA : InA L D) (hN : InN C D) (hS : InS C D) (hC : InC C D) : InA L E ∧ InN C E ∧ InS C E ∧ InC C E := by
  have e2 : ∀ t, E 2 t = D 2 t := fun t => hn 2 t (by omega) (by omega)
  have e3 : ∀ t, E 3 t = D 3 t := fun t => hn 3 t (by omega) (by omega)
  have e4 : ∀ t, E 4 t = D 4 t := fun t => hn 4 t (by omega) (by omega)
  have e5 : ∀ t, E 5 t = D 5 t := fun t => hn 5 t (by omega) (by omega)
  have e6 : ∀ t, E 6 t = D 6 t := fun t => hn 6 t (by omega) (by omega)
  have e7 : ∀ t, E 7 t = D 7 t := fun t => hn 7 t (by omega) (by omega)
  have e8 : ∀ t, E 8 t = D 8 t := fun t => hn 8 t (by omega) (by omega)
  have hls : lsN E = lsN D := by unfold lsN; rw [h10]
  have hbs : bsN E = bsN D := by unfold bsN; rw [h5]
  have hwp : wpN E = wpN D := by unfold wpN; rw [h6]
  have hsq : ∀ t, sq E t = sq D t := fun t => by unfold sq; rw [e3]
  have hpg : ∀ t, pgT E t = pgT D t := fun t => by unfold pgT; rw [e4, e5]
  refine ⟨?_, fun t ht => ?_, ?_, ?_⟩
  · unfold InA at hA ⊢; rw [hls, hbs, hwp, h10, h5, h6]; exact hA
  · have := hN t ht
    unfold NodeOK at this ⊢
    simp only [e2, e3, e4, e5, e6, e7, e8, hls, hsq]
    exact this
  · unfold InS isN at hS ⊢
    simp only [e2, e3, e4, e5, e6, e7, e8]
    exact hS
  · unfold InC at hC ⊢
    simp only [e2, e3, e4, e5, e6, e7, e8, hbs, hwp, hsq, hpg]
    exact hC
theorem lkX_cg {y2 : Int32 × Int32} (h : X' j k = X j k) : lkX X' b y2 j k = lkX X b y2 j k := by
  unfold lkX
  rw [h]
theorem t_mounts (h : Lay M) (hM : MCfg C X) (hb : b ≤ 2140) (hB : CB C) (hR : Rel C b D X) (hI : Inv C L D) (hLk : X 0 22 = i3 b → Lk D X) (hf : 1100 < fu) (hf2 : L + 100 < fu) (nt : Bool) :
    ∃ X', F_X12_mounts fu 0 (i3 b) (mmb X M) = some (mountT D (C 0 0) (C 0 1) 14 15, mmb X' M) ∧ Po nt b C D (mountT D (C 0 0) (C 0 1)) X X' := by
  have hI' := hI
  obtain ⟨hO, hA, hN, hS, hMp, hC, hOo, hIB⟩ := hI
  obtain ⟨m, m1, m2, m3, m4⟩ := great_fix hI'
  have hls : m < 1000000 := by have := hA.2.1; have := hA.2.2.1; omega
  have hmL : m ≤ L := Nat.le_trans m2 hA.2.1
  have h36 := tot36 hB
  have h6 := hB.1
  have hT : tot C = C 0 0 * C 0 1 := rfl
  have e02 : i3 b + 2 = i3 (b + 2) := i3_add b 2
  obtain ⟨g0, g1, g2, g3, g4, g5, g6, g7, g8, g9⟩ := hR
  have o2 : ∀ k, k < b + 14 → k ≠ b + 2 → k ≠ b + 3 → k ≠ b + 4 → k ≠ b + 5 → up (offX X b) 95 (b + 2) 1 95 k = X 95 k := fun k h1 h2 h3 h4 h5 => by rw [up_ne (by omega), offX_o (by omega)]
  have o3 : ∀ k, b + 34 ≤ k → up (offX X b) 95 (b + 2) 1 95 k = X 95 k := fun k h1 => by rw [up_ne (by omega), offX_o (by omega)]
  have oj : ∀ j k, j ≠ 95 → up (offX X b) 95 (b + 2) 1 j k = X j k := fun j k h1 => by rw [up_ne (by omega), offX_o (by omega)]
  have mn0 : ∀ f, f < 5 → ∀ j, (j = 11 ∨ j = 12) → mnT D (fun _ => 0) (D 14 10) (D 15 4) j f = 0 := fun f hf j hj => by unfold mnT; rw [if_neg (by omega), if_pos ⟨hj, hf⟩]
  have hbit : ∀ j, (j = 11 ∨ j = 12) → bitsAs 0 (mnT D (fun _ => 0) (D 14 10) (D 15 4) j) := fun j hj => ⟨0, by omega, rfl, fun f hf => by rw [mn0 f hf j hj, Nat.zero_div]; rfl⟩
  have hR1 : Rel C b (mnT D (fun _ => 0) (D 14 10) (D 15 4)) (up (offX X b) 95 (b + 2) 1) := by
    refine Rel_gen ⟨g0, g1, g2, g3, g4, g5, g6, g7, g8, g9⟩ ?_ ?_ ?_ ?_ ?_ ?_ ?_ (fun k hk => ?_) (fun k hk => ?_) (fun j k h1 h2 => mn_n h2) (fun k hk => o3 k hk)
    · rw [o2 _ (by omega) (by omega) (by omega) (by omega) (by omega), mn_1410]; exact g0
    · rw [o2 _ (by omega) (by omega) (by omega) (by omega) (by omega), mn_144]; exact g1
    · rw [up_eq]; unfold mnT; rw [if_neg (by omega), if_neg (by omega), if_pos ⟨rfl, rfl⟩]
    · rw [up_ne (by omega)]; unfold offX; rw [if_neg (by omega), if_pos (by omega)]; unfold mnT; rw [if_neg (by omega), if_neg (by omega), if_neg (by omega), if_pos ⟨rfl, rfl⟩]
    · rw [up_ne (by omega)]
      have : offX X b 95 (b + 4) = 0 := by unfold offX; rw [if_neg (by omega), if_pos (by omega)]
      rw [this]; exact hbit 11 (Or.inl rfl)
    · rw [up_ne (by omega)]
      have : offX X b 95 (b + 5) = 0 := by unfold offX; rw [if_neg (by omega), if_pos (by omega)]
      rw [this]; exact hbit 12 (Or.inr rfl)
    · rw [o2 _ (by omega) (by omega) (by omega) (by omega) (by omega), g6]
      unfold mnT
      rw [if_neg (by omega), if_neg (by omega), if_neg (by omega), if_neg (by omega), if_neg (by omega), if_neg (by omega)]
    · rw [o2 _ (by omega) (by omega) (by omega) (by omega) (by omega), g7 k hk, mn_n (by omega)]
    · rw [up_ne (by omega), mn_9 hk]; unfold offX; rw [if_pos (by omega)]
  have hm5 : mnT D (fun _ => 0) (D 14 10) (D 15 4) 15 5 = D 15 5 := mn_15 (by omega)
  have hm6 : mnT D (fun _ => 0) (D 14 10) (D 15 4) 15 6 = D 15 6 := mn_15 (by omega)
  obtain ⟨i1, i2, i3', i4⟩ := In4_cg (E := mnT D (fun _ => 0) (D 14 10) (D 15 4)) (fun j k h1 h2 => mn_n h2) mn_1410 hm5 hm6 hA hN hS hC
  have hfs : fsN (mnT D (fun _ => 0) (D 14 10) (D 15 4)) = fsN D := by unfold fsN bsN wpN; rw [hm5, hm6]
  have hwp : wpN (mnT D (fun _ => 0) (D 14 10) (D 15 4)) = wpN D := by unfold wpN; rw [hm6]
  have hM1 : MCfg C (up (offX X b) 95 (b + 2) 1) := MCfg_90 hM (fun k => oj 90 k (by decide))
  have hL1 : up (offX X b) 95 (b + 2) 1 0 22 = i3 b → Lk (mnT D (fun _ => 0) (D 14 10) (D 15 4)) (up (offX X b) 95 (b + 2) 1) := by
    intro q
    rw [oj 0 22 (by decide)] at q
    have := Lk_cg (E := mnT D (fun _ => 0) (D 14 10) (D 15 4)) (hLk q) hm5 hm6
    exact ⟨(oj 0 20 (by decide)).trans this.1, (oj 0 21 (by decide)).trans this.2⟩
  have hlook := t_looks (fu := fu) (M := M) h hM1 hb hB hR1 i1 i2 i3' i4 hL1 (by omega)
  rw [hfs, hwp] at hlook
  have hY0 : MI C b D X (fun _ => 0) (D 14 10) (D 15 4) (lkX (up (offX X b) 95 (b + 2) 1) b (i3 (fsN D), i3 (wpN D))) :=
    ⟨Rel_95 hR1 (fun k => lkX_o (Or.inl (by decide))), fun j k hj => lkX_cg (oj j k hj), fun k hk => by rw [lkX_o (Or.inl (by decide)), up_ne (by omega), offX_o (by omega)]⟩
  have hP0 : PA C D (fun _ => 0) (WEl D 0) := fun a ha => ⟨0, rfl, by omega, Or.inr ⟨rfl, fun q hq => by obtain ⟨⟨s, i, h1, -⟩, -⟩ := hq; exact absurd h1 (Nat.not_lt_zero _)⟩⟩
  obtain ⟨G1, Y1, r1, r2, r3⟩ := t_mnt21 (fu := fu) (M := M) h hM hb hB hA hN hS hC (by omega) (tot C) 0 fu _ _ (by omega) (by omega) hY0 hP0
  have hNA : NA C D G1 (bsN D) := by
    intro a ha
    obtain ⟨v, v1, v2, v3⟩ := r3 a ha
    exact ⟨v, v1, v2, Or.inr (Or.inr ⟨fun n n1 n2 => absurd n2 (by omega), v3⟩)⟩
  have r4 := t_mnt195 (fu := fu) (M := M) h hM hb hB hA hN r2 (by omega)
  obtain ⟨G2, Y2, s1, s2, s3⟩ := t_mnt271 (fu := fu) (M := M) h hM hb hB hA hN hS (by omega) (show m < 2000000000 by omega) (m - bsN D) (bsN D) fu G1 Y1 (by omega) (by omega) (Nat.le_refl _) r2 hNA
  rw [jn_0 hA hN, show (i3 0 : Int32) = 0 from rfl] at s1
  have hYh := MI_head (v := -1) (MI_last (v := i3 m) s2)
  obtain ⟨Y3, w1, w2⟩ := t_mnt419 (fu := fu) (M := M) (z := i3 (jn C D m)) h hM hb hB (by omega) (C 0 0) fu (-1) _ (Nat.le_refl _) (by omega) hYh
  refine ⟨Y3, ?_, ?_⟩
  · unfold F_X12_mounts
    rw [t_powersOff h hb (by omega)]
    simp only [Option.bind_some]
    rw [gr17 h]
    simp only [Option.bind_some]
    rw [e02, gd95 h (by omega), xi_i3 (by omega)]
    simp only [p_95]
    rw [hlook]
    simp only [Option.bind_some]
    rw [show (0 : Int32) = i3 0 from rfl] 
    rw [r1]
    rw [r4, m1, s1]
    obtain ⟨l, hl⟩ : ∃ l, fu - (m - bsN D) = l + 1 := ⟨fu - (m - bsN D) - 1, by omega⟩
    rw [hl]
    conv => lhs; unfold L_X12_mounts_271
    rw [if_pos ((i3_lt (by omega) (by omega)).mpr (by omega)), gr17 h]
    simp only [Option.bind_some, e16]
    rw [gd95 h (by omega), xi_i3 (by omega)]
    simp only [p_95]
    rw [gr17 h]
    simp only [Option.bind_some]
    rw [i3_add1, gd95 h (by omega), xi_i3 (by omega)]
    simp only [p_95]
    rw [t_blocks h (MI_cfg hYh hM)]
    simp only [Option.bind_some]
    rw [show (i3 (C 0 0) : Int32) - 1 = i3 (C 0 0) + (-1) from Int32.sub_eq_add_neg _ _, w1, mount_jour, ← hT, jn_all hA hN m4]
  · have hhead : (match lst (fun k => decide (0 < eraN D (C 0 1) k (C 0 1)) && decide (eraN D (C 0 1) k (C 0 1) < C 0 1)) (C 0 0) with | some k => i3 k | none => -1) = on (begunT D (C 0 0)) := by
      have : lst (fun k => decide (0 < eraN D (C 0 1) k (C 0 1)) && decide (eraN D (C 0 1) k (C 0 1) < C 0 1)) (C 0 0) = begunT D (C 0 0) := by
        unfold begunT
        refine lst_cg (fun k hk => ?_)
        obtain ⟨l, l1, l2, l3, l4⟩ := hIB.2 k hk
        have h61 := hB.2.1
        rw [era_l l1 l3, l2, hO.2.2.2.1]
        have q1 : (0 < l) = ((0 : Int32) < i3 l) := (propext (i3_lt (a := 0) (by omega) (by omega))).symm
        have q2 : (l < C 0 1) = (i3 l < i3 (C 0 1)) := (propext (i3_lt (by omega) (by omega))).symm
        simp only [q1, q2]
      rw [this]; rfl
    replace w2 : MI C b D X G2 (i3 m) (on (begunT D (C 0 0))) Y3 := by rw [← hhead]; exact w2
    have hG : ∀ k, k < 20 → G2 k = findT D (tot C) 16 k := by
      intro k hk
      obtain ⟨v, v1, v2, v3⟩ := s3 k hk
      obtain ⟨v', u1, u2, u3, -⟩ := find_is hB hI' hk
      rw [v1, u1, MapIs_uniq hA hN hS hC (MapIs_up v3 m2 m4) u3]
    have hRm : Rel C b (mountT D (C 0 0) (C 0 1)) Y3 := by
      refine Rel_cg w2.1 (fun j k hj => ?_)
      rw [mount_lo (by omega) (by omega) (by omega), mnt2_is (nb := C 0 0) (nw := C 0 1) hG (by omega) (by omega), ← hT, m1]
    have hlk := MI_lk w2
    have hFl : Fm b X (lkX X b (i3 (fsN D), i3 (wpN D))) := Fm_lk hb
    have hF : Fm b (lkX X b (i3 (fsN D), i3 (wpN D))) Y3 := Fm_95 (fun j k hj => w2.2.1 j k hj) (fun k hk => by rw [w2.2.2 k (by omega), lkX_o (Or.inl (by decide))])
    refine ⟨hRm, MI_cfg w2 hM, Fm_tr hFl hF, fun _ => Lk_cg ⟨hlk.1, hlk.2.1⟩ (mount_n (by omega)) (mount_n (by omega)), Pc_rf (w2.2.2 _ (Or.inr (Or.inr rfl))) ?_⟩
    rw [mount_lo (by omega) (by omega) (by omega), mnt2_24]
end
