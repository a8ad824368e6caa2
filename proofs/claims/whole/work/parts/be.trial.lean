/-! ===== the trial: both sides ===== -/
section
variable {M M' N N' : xM} {D E S T X X' : xT} {C : xC} {R : Nat → Int32} {d fu n m i j o p q a k l s t w K P L L' b B B' f e : Nat} {v x y r z : Int32} {nt : Bool} {W : Nat → Nat} {V : Nat → Nat → Int32}
theorem cpD_rg (h : rg j k) : cpD S T j k = S j k := by
  unfold cpD
  unfold rg at h
  rw [if_pos h]
theorem Inv_rg (hB : CB C) (h : ∀ j k, rg j k → E j k = D j k) (hI : Inv C L D) : Inv C L E := by
  have h36 := tot36 hB
  have h6 := hB.1
  have h61 := hB.2.1
  have hT : tot C = C 0 0 * C 0 1 := rfl
  obtain ⟨hO, hA, hN, hS, hM, hC, hOo, hIB⟩ := hI
  have e14 : ∀ k, (k = 1 ∨ k = 2 ∨ k = 10) → E 14 k = D 14 k := fun k hk => h _ _ (by unfold rg; omega)
  have e15 : ∀ k, k < 7 → E 15 k = D 15 k := fun k hk => h _ _ (by unfold rg; omega)
  have es : ∀ j s, 2 ≤ j → j < 7 → s < tot C → E j s = D j s := fun j s h1 h2 hs => h _ _ (by unfold rg; omega)
  have e7 : ∀ s i, s < tot C → i < 4 → E 7 (s * 4 + i) = D 7 (s * 4 + i) := fun s i hs hi => h _ _ (by unfold rg; omega)
  have e8 : ∀ s i, s < tot C → i < 4 → E 8 (s * 4 + i) = D 8 (s * 4 + i) := fun s i hs hi => h _ _ (by unfold rg; omega)
  have hls : lsN E = lsN D := by unfold lsN; rw [e14 _ (by omega)]
  have hbs : bsN E = bsN D := by unfold bsN; rw [e15 _ (by omega)]
  have hwp : wpN E = wpN D := by unfold wpN; rw [e15 _ (by omega)]
  have hsq : ∀ s, s < tot C → sq E s = sq D s := fun s hs => by unfold sq; rw [es 3 s (by omega) (by omega) hs]
  have hpg : ∀ s, s < tot C → pgT E s = pgT D s := fun s hs => by unfold pgT; rw [es 4 s (by omega) (by omega) hs, es 5 s (by omega) (by omega) hs]
  have his : ∀ s, s < tot C → (isN E s ↔ isN D s) := fun s hs => by unfold isN; rw [es 2 s (by omega) (by omega) hs]
  have hc2 : ∀ s, s < tot C → ∀ c v, c ≤ 4 → v = i3 c → ∀ i, i3 i < v → i < 4 → True := fun _ _ _ _ _ _ _ _ _ => trivial
  refine ⟨?_, ?_, fun s hs => ?_, fun s t hs ht hn he => ?_, fun a ha => ?_, ?_, ?_, ?_⟩
  · obtain ⟨o1, o2, o3, o4, o5, o6, o7⟩ := hO
    refine ⟨o1, o2, (e15 _ (by omega)).trans o3, (e15 _ (by omega)).trans o4, (e15 _ (by omega)).trans o5, by rw [e15 _ (by omega)]; exact o6, fun s hs => ?_⟩
    have hs' : s < tot C := hs
    obtain ⟨p1, p2, p3⟩ := o7 s hs
    rw [es 2 s (by omega) (by omega) hs', es 4 s (by omega) (by omega) hs', es 5 s (by omega) (by omega) hs', es 6 s (by omega) (by omega) hs']
    refine ⟨p1, p2, fun q n hn hl => ?_⟩
    rw [e7 s n hs' hn]
    exact p3 q n hn hl
  · unfold InA at hA ⊢
    rw [hls, hbs, hwp, e14 _ (by omega), e15 _ (by omega), e15 _ (by omega)]
    exact hA
  · have := hN s hs
    unfold NodeOK at this ⊢
    rw [es 2 s (by omega) (by omega) hs, es 3 s (by omega) (by omega) hs, es 4 s (by omega) (by omega) hs, es 5 s (by omega) (by omega) hs, es 6 s (by omega) (by omega) hs, hls, hsq s hs]
    rcases this with q | q | ⟨q1, q2, q3, q4⟩
    · exact Or.inl q
    · exact Or.inr (Or.inl q)
    · refine Or.inr (Or.inr ⟨q1, q2, q3, ?_⟩)
      rcases q4 with q | q | ⟨r1, p, n, c, r2, r3, r4, r5, r6, r7, r8, r9⟩
      · exact Or.inl q
      · exact Or.inr (Or.inl q)
      · refine Or.inr (Or.inr ⟨r1, p, n, c, r2, r3, r4, r5, r6, r7, r8, fun i hi => ?_⟩)
        rw [e7 s i hs (by omega), e8 s i hs (by omega)]
        exact r9 i hi
  · rw [es 3 s (by omega) (by omega) hs, es 3 t (by omega) (by omega) ht] at he
    obtain ⟨g1, g2, g3, g4, g5⟩ := hS s t hs ht ((his s hs).mp hn) he
    rw [es 2 s (by omega) (by omega) hs, es 2 t (by omega) (by omega) ht, es 4 s (by omega) (by omega) hs, es 4 t (by omega) (by omega) ht, es 5 s (by omega) (by omega) hs, es 5 t (by omega) (by omega) ht, es 6 s (by omega) (by omega) hs, es 6 t (by omega) (by omega) ht]
    refine ⟨g1, g2, g3, g4, fun q i hi hl => ?_⟩
    rw [e7 s i hs hi, e7 t i ht hi, e8 s i hs hi, e8 t i ht hi]
    exact g5 q i hi hl
  · obtain ⟨m1, m2, m3⟩ := hM a ha
    have e9 : E 9 a = D 9 a := h _ _ (by unfold rg; omega)
    rw [e9, hls]
    refine ⟨m1, m2, fun s hs q1 q2 => ?_⟩
    rw [es 2 s (by omega) (by omega) hs] at q1
    rw [es 3 s (by omega) (by omega) hs] at q2
    rw [hpg s hs]
    exact m3 s hs q1 q2
  · obtain ⟨c1, c2, c3, c4⟩ := hC
    refine ⟨fun p hp => ?_, fun s hs q1 q2 => ?_, fun s t i j hs ht q1 q2 q3 hi hj l1 l2 q4 => ?_, fun s t i hs ht q1 q2 hi l1 q3 => ?_⟩
    · rw [hwp] at hp
      obtain ⟨s, s1, s2, s3, s4, s5⟩ := c1 p hp
      exact ⟨s, s1, (es 2 s (by omega) (by omega) s1).trans s2, by rw [hsq s s1, hbs, hwp]; exact s3, (es 4 s (by omega) (by omega) s1).trans s4, by rw [hwp, es 5 s (by omega) (by omega) s1]; exact s5⟩
    · rw [es 2 s (by omega) (by omega) hs] at q1
      rw [hbs, hsq s hs] at q2
      obtain ⟨p, p1, p2⟩ := c2 s hs q1 q2
      refine ⟨p, by rw [es 5 s (by omega) (by omega) hs]; exact p1, fun t ht => ?_⟩
      rw [es 2 t (by omega) (by omega) ht, hsq t ht, hsq s hs, es 4 s (by omega) (by omega) hs, es 4 t (by omega) (by omega) ht, es 5 s (by omega) (by omega) hs, es 5 t (by omega) (by omega) ht]
      exact p2 t ht
    · rw [es 2 s (by omega) (by omega) hs] at q1
      rw [es 2 t (by omega) (by omega) ht] at q2
      rw [hsq s hs, hsq t ht, es 4 t (by omega) (by omega) ht, es 4 s (by omega) (by omega) hs] at q3
      rw [es 6 s (by omega) (by omega) hs] at l1
      rw [es 6 t (by omega) (by omega) ht] at l2
      rw [e7 s i hs hi, e7 t j ht hj] at q4
      rw [e8 s i hs hi, e8 t j ht hj]
      exact c3 s t i j hs ht q1 q2 q3 hi hj l1 l2 q4
    · rw [es 2 s (by omega) (by omega) hs] at q1
      rw [es 2 t (by omega) (by omega) ht] at q2
      rw [es 6 s (by omega) (by omega) hs] at l1
      rw [es 3 t (by omega) (by omega) ht, e8 s i hs hi] at q3
      rw [hpg t ht, e7 s i hs hi]
      exact c4 s t i hs ht q1 q2 hi l1 q3
  · refine ⟨by rw [e14 _ (by omega)]; exact hOo.1, by rw [e14 _ (by omega)]; exact hOo.2.1, fun f hf => ?_⟩
    rw [h 11 f (by unfold rg; omega), h 12 f (by unfold rg; omega)]
    exact hOo.2.2 f hf
  · obtain ⟨b1, b2⟩ := hIB
    have hA2 : ∀ n, n ≤ C 0 0 → eraA E (C 0 1) n = eraA D (C 0 1) n := by
      intro n
      induction n with
      | zero => intro _; rfl
      | succ n ih =>
        intro hn
        have := blk (nw := C 0 1) (show n < C 0 0 by omega)
        show eraA E (C 0 1) n + eraN E (C 0 1) n (C 0 1) = _ + _
        rw [ih (by omega)]; congr 1; unfold eraN; exact cnt_congr (fun i hi => by rw [es 2 _ (by omega) (by omega) (by omega)])
    refine ⟨by rw [hA2 _ (Nat.le_refl _), e15 _ (by omega)]; exact b1, fun k hk => ?_⟩
    obtain ⟨l, l1, l2, l3, l4⟩ := b2 k hk
    have := blk (nw := C 0 1) hk
    exact ⟨l, l1, by rw [h 1 k (by unfold rg; omega)]; exact l2, fun i hi => by rw [es 2 _ (by omega) (by omega) (by omega)]; exact l3 i hi, by rw [e15 _ (by omega)]; exact l4⟩
theorem bits_cg {g g' : Nat → Int32} (h : ∀ f, f < 5 → g' f = g f) (hb : bitsAs x g) : bitsAs x g' := by
  obtain ⟨o, h1, h2, h3⟩ := hb
  exact ⟨o, h1, h2, fun f hf => (h f hf).trans (h3 f hf)⟩
theorem Rel_rg (hB : CB C) (h : ∀ j k, rg j k → E j k = D j k) (hR : Rel C b D X) : Rel C b E X := by
  have h36 := tot36 hB
  have es : ∀ j s, 2 ≤ j → j < 7 → s < tot C → E j s = D j s := fun j s h1 h2 hs => h _ _ (by unfold rg; omega)
  obtain ⟨g0, g1, g2, g3, g4, g5, g6, g7, g8, g9⟩ := hR
  refine ⟨?_, ?_, ?_, ?_, bits_cg (fun f hf => h _ _ (by unfold rg; omega)) g4, bits_cg (fun f hf => h _ _ (by unfold rg; omega)) g5, ?_, fun k hk => ?_, fun k hk => ?_, fun s hs => ?_⟩
  · rw [h 14 10 (by unfold rg; omega)]; exact g0
  · rw [h 15 4 (by unfold rg; omega)]; exact g1
  · rw [h 14 1 (by unfold rg; omega)]; exact g2
  · rw [h 14 2 (by unfold rg; omega)]; exact g3
  · rw [h 14 3 (by unfold rg; omega)]; exact g6
  · rw [h 0 k (by unfold rg; omega)]; exact g7 k hk
  · rw [h 9 k (by unfold rg; omega)]; exact g8 k hk
  · obtain ⟨u1, u2, u3⟩ := g9 s hs
    rw [es 2 s (by omega) (by omega) hs, es 3 s (by omega) (by omega) hs, es 4 s (by omega) (by omega) hs, es 5 s (by omega) (by omega) hs, es 6 s (by omega) (by omega) hs]
    refine ⟨u1, u2, fun w n hn hl => ?_⟩
    rw [h 7 _ (by unfold rg; omega), h 8 _ (by unfold rg; omega)]
    exact u3 w n hn hl
/-- the trial as it starts from the disk -/
def trT (S T : xT) : xT := up (cpD S T) 14 2 0
theorem trT_rg (h : rg j k) : trT S T j k = up S 14 2 0 j k := by
  unfold trT
  rw [up_at, up_at]
  by_cases c : j = 14 ∧ k = 2
  · rw [if_pos c, if_pos c]
  · rw [if_neg c, if_neg c]; exact cpD_rg h
theorem Inv_cut0 (hI : Inv C L S) : Inv C L (up S 14 2 0) := by
  have := Inv_cuA (c := 0) (N := S) hI (by omega)
  rw [← cut_as rfl] at this
  exact this
theorem Inv_tr (hB : CB C) (hI : Inv C L S) : Inv C L (trT S T) := Inv_rg hB (fun j k h => trT_rg h) (Inv_cut0 hI)
theorem InV_tr : InV C (trT S T) := Or.inl (by
  unfold trT cpD
  rw [up_ne (by omega), if_neg (by omega), if_pos ⟨rfl, rfl⟩])
theorem trT_142 : trT S T 14 2 = 0 := up_eq
theorem KE_tr0 : KE (trT S T) T := fun j k h1 h2 => by
  unfold trT cpD
  rw [up_ne (by omega), if_neg (by omega), if_neg (by omega)]
theorem e_tryFromNow (h : Lay M) (hx : tb 0 M 14 1 = 0 ∨ tb 0 M 14 1 = 1) (hp : gR M 2 0 4 = some a) : F_X11_tryFromNow fu 0 M = some (emb 1 (trT (tb 0 M) (tb 1 M)) (sR M 2 1 4 (some a))) := by
  have ec := e_copy (fu := fu) (d := 1) (e := 0) (T := tb 1 M) h (by omega) (by omega) (by omega) rfl hx
  rw [emb_tb, hp] at ec
  have h2 : Lay (sR M 2 1 4 (some a)) := Lay_sR4 h
  unfold F_X11_tryFromNow
  rw [l11_0_7 h, l11_0_6 h]
  simp only [Option.bind_some]
  rw [ec]
  simp only [Option.bind_some, gR_emb]
  rw [l11_0_7 h2]
  simp only [Option.bind_some, w_d]
  rfl
/-- what a trial leaves -/
theorem op_trial {f g : xM → Option (Int32 × xM)} (hS : SimP C R a w n W V B M) (hf : f M = some (r, emb 1 T N)) (h1 : N.1 = M.1) (h2 : Lay N) (h3 : ∀ c s k, (c ≠ 2 ∨ s ≠ 1 ∨ k ≠ 4) → gR N c s k = gR M c s k) (h4 : ∀ c s k, c ≠ 6 → gL N c s k = gL M c s k) (hK : KE T (tb 1 M))
    (hg : ∃ X', g (mmb (tX M) (emb 1 T N)) = some (r, mmb X' (emb 1 T N)) ∧ Fm 1605 (up (tX M) 0 0 0) X' ∧ ¬ X' 0 22 = i3 0) : Both C R a w n W V B f g M := by
  obtain ⟨X', g1, g2, g3⟩ := hg
  have ht : ∀ d j k, tb d N j k = tb d M j k := fun d j k => by unfold tb; rw [h1]
  have hx : tX N = tX M := by unfold tX; rw [h1]
  have hm : mmb (tX M) (emb 1 T N) = emb 1 T N := by rw [← hx]; exact mX_emb (by omega)
  rw [hm] at g1
  obtain ⟨L, l1, l2, l3, l4, l5, l6⟩ := hS.2.2.2.2.2.2.1
  refine op_cl hS hf ⟨X', g1, FmS_find g2 g3⟩ (Or.inr ⟨h2, fun c s k q => h3 c s k (by omega), fun c s k q => h4 c s k q⟩) (fun c s k q => ?_) (fun j k q1 q2 q3 q4 => ?_) (InV_lo (fun j k hj => ?_) l3) (fun d j k q1 q2 q3 => ?_) (fun j k q1 q2 => ?_)
  · rw [bs_emb (by omega) c s k q]
    unfold gI; rw [h1]
  · rw [tb_oth (by omega) (by omega) (by omega) q1]; exact ht _ _ _
  · rw [tb_oth (by omega) (by omega) (by omega) hj]; exact ht _ _ _
  · rw [tb_oth q2 (by omega) (by omega) q3]; exact ht _ _ _
  · rw [tb_sh (by omega) (by omega) (by omega) (by omega), hK j k q1 q2]
    exact tb_one (by omega) (by omega) (by omega)
/-! rounds -/
def rdA (C : xC) (s : Nat) : Nat → Nat → xT → Int32 × xT
  | 0, _, T => (-1, T)
  | m + 1, j, T => if i3 s ≤ T 15 3 then (i3 j, T) else if 0 ≤ (collectT false T (C 0 0) (C 0 1)).1 then rdA C s m (j + 1) (collectT false T (C 0 0) (C 0 1)).2 else (-1, (collectT false T (C 0 0) (C 0 1)).2)
theorem e_rounds (h : Lay N) (hB : CB C) (hf : 1100 < fu) : ∀ m j l T, j + m = 37 → m < l → Inv C L T → InV C T →
    L_X11_rounds_18 fu l 0 (i3 s) (i3 j) (emb 1 T N) = some ((rdA C s m j T).1, emb 1 (rdA C s m j T).2 N) ∧ KE (rdA C s m j T).2 T := by
  intro m
  induction m with
  | zero =>
    intro j l T hj hl hI hV
    obtain ⟨l, rfl⟩ : ∃ k, l = k + 1 := ⟨l - 1, by omega⟩
    refine ⟨?_, KE_rf⟩
    conv => lhs; unfold L_X11_rounds_18
    have hj2 : j = 37 := by omega
    rw [hj2, if_pos (by decide)]
    rfl
  | succ m ih =>
    intro j l T hj hl hI hV
    obtain ⟨l, rfl⟩ : ∃ k, l = k + 1 := ⟨l - 1, by omega⟩
    have ec := e_collect (fu := fu) (M := N) (D := T) (d := 1) (nb := C 0 0) (nw := C 0 1) h (by omega) ⟨hI.1, fun q => absurd q (by decide)⟩ (by omega)
    rw [show decide (1 = 2) = false by decide] at ec
    have hi2 := Inv_collect hB hI hV false
    have hv2 := InV_collect hB hI hV false
    have hk := KE_collect (nb := C 0 0) (nw := C 0 1) (Okd3 hI) (by decide)
    have eu : rdA C s (m + 1) j T = if i3 s ≤ T 15 3 then (i3 j, T) else if 0 ≤ (collectT false T (C 0 0) (C 0 1)).1 then rdA C s m (j + 1) (collectT false T (C 0 0) (C 0 1)).2 else (-1, (collectT false T (C 0 0) (C 0 1)).2) := rfl
    rw [eu]
    conv => enter [1, 1]; unfold L_X11_rounds_18
    rw [if_neg (fun q => by have := (i3_lt (a := 36) (by omega) (by omega)).mp q; omega)]
    simp only [gR_emb]
    rw [l11_0_7 h]
    simp only [Option.bind_some]
    rw [l2_0 h (by omega)]
    simp only [Option.bind_some, r_c]
    by_cases c1 : i3 s ≤ T 15 3
    · rw [if_neg (Int32.not_lt.mpr c1), if_pos c1]
      exact ⟨rfl, KE_rf⟩
    · rw [if_pos (Int32.not_le.mp c1), if_neg c1, ec]
      simp only [Option.bind_some]
      by_cases c2 : 0 ≤ (collectT false T (C 0 0) (C 0 1)).1
      · rw [if_pos c2, if_pos c2, i3_add1]
        obtain ⟨k1, k2⟩ := ih (j + 1) l _ (by omega) (by omega) hi2 hv2
        exact ⟨k1, KE_tr hk k2⟩
      · rw [if_neg c2, if_neg c2]
        exact ⟨rfl, hk⟩
theorem t_rounds (h : Lay N) (hB : CB C) (hs : s ≤ 36) (hf : 1100 < fu) : ∀ m j l T X, j + m = 37 → m < l → Inv C L T → InV C T → T 14 2 = 0 → (∃ e, T 15 3 = i3 e ∧ j ≤ e ∧ e ≤ 36) → MCfg C X → Rel C 1605 T X → (X 0 22 = i3 1605 → Lk T X) →
    ∃ X', L_X12_rounds_23 fu l 0 (i3 s) (i3 j) (mmb X N) = some ((rdA C s m j T).1, mmb X' N) ∧ Fm 1605 X X' := by
  intro m
  induction m with
  | zero =>
    intro j l T X hj hl hI hV h2 he
    obtain ⟨e, e1, e2, e3⟩ := he
    omega
  | succ m ih =>
    intro j l T X hj hl hI hV h2 he hM hR hLk
    obtain ⟨e, e1, e2, e3⟩ := he
    obtain ⟨l, rfl⟩ : ∃ k, l = k + 1 := ⟨l - 1, by omega⟩
    have k1 : F_X12_erased fu 0 1605 (mmb X N) = some (T 15 3, mmb X N) := t_erased (b := 1605) h hM (by omega) hB hR hI.2.2.2.2.2.2.2 (by omega)
    obtain ⟨X1, c1, c2, c3, c4, c5, c6⟩ := t_collects (fu := fu) (M := N) (b := 1605) h hM (by omega) hB hR hI hV hLk (by omega) false
    have eu : rdA C s (m + 1) j T = if i3 s ≤ T 15 3 then (i3 j, T) else if 0 ≤ (collectT false T (C 0 0) (C 0 1)).1 then rdA C s m (j + 1) (collectT false T (C 0 0) (C 0 1)).2 else (-1, (collectT false T (C 0 0) (C 0 1)).2) := rfl
    rw [eu]
    conv => enter [1, X', 1, 1]; unfold L_X12_rounds_23
    rw [k1]
    simp only [Option.bind_some]
    by_cases w1 : i3 s ≤ T 15 3
    · rw [if_pos w1, if_pos w1]
      exact ⟨X, rfl, Fm_rf⟩
    · rw [if_neg w1, if_neg w1, show F_X12_collects fu 0 1605 (mmb X N) = _ from c1]
      simp only [Option.bind_some]
      have hse : e < s := by
        rw [e1] at w1
        exact Nat.lt_of_not_le (fun q => w1 ((i3_le (by omega) (by omega)).mpr q))
      have hi2 := Inv_collect hB hI hV false
      have hgr := gr_collect (nt := false) hB hI hV h2 e1 e3
      rcases hgr with q | ⟨k, e', g1, g2, g3, g4, g5⟩
      · have hn : ¬ (0 : Int32) ≤ (collectT false T (C 0 0) (C 0 1)).1 := by rw [q]; decide
        rw [if_neg hn, if_neg hn]
        exact ⟨X1, rfl, c4⟩
      · have h6 := hB.1
        have hp : (0 : Int32) ≤ (collectT false T (C 0 0) (C 0 1)).1 := by rw [g2]; exact ge0 (by omega)
        rw [if_pos hp, if_pos hp, i3_add1]
        have hle := eraA_le (D := (collectT false T (C 0 0) (C 0 1)).2) (nw := C 0 1) (C 0 0)
        have h36 := tot36 hB
        have hT : tot C = C 0 0 * C 0 1 := rfl
        have he36 : e' ≤ 36 := by
          have := hi2.2.2.2.2.2.2.2.1
          rw [g3] at this
          have := (i3_eq (by omega) (by omega)).mp this
          omega
        obtain ⟨X', r1, r2⟩ := ih (j + 1) l _ X1 (by omega) (by omega) hi2 (InV_collect hB hI hV false) (nd_collect hB hI hV h2).2 ⟨e', g3, by omega, he36⟩ c3 c2 c5
        exact ⟨X', r1, Fm_tr c4 r2⟩
theorem op_rounds (hS : SimP C R a w n W V B M) (hf : 1100 < fu) : Both C R a w n W V B (F_X11_rounds fu 0 x) (F_X12_rounds fu 0 x) M := by
  obtain ⟨s1, s2, s3, s4, s5, s6, ⟨L, l1, l2, l3, l4, l5, l6⟩, s8, s9, s10, s11, s12, s13, s14, s15⟩ := id hS
  have h := s1.1
  have h36 := tot36 s2
  have hw : ∀ M1, F_X12_within fu x 0 36 (mmb (up (tX M) 0 0 0) M1) = some (bz (! decide (x < 0) && ! decide (i3 37 ≤ x)), mmb (up (tX M) 0 0 0) M1) := fun M1 => t_within (nb := 37) (by omega)
  cases hb : (! decide (x < 0) && ! decide (i3 37 ≤ x)) with
  | false =>
    refine op_same (r := -1) hS ?_ (fun M1 h1 => ⟨_, ?_, FmS_0 (v := 0) s8⟩)
    · unfold F_X11_rounds
      by_cases x0 : x < 0
      · rw [if_pos x0]
      · rw [if_neg x0]
        rw [decide_eq_false x0, Bool.not_false, Bool.true_and, Bool.not_eq_false', decide_eq_true_eq] at hb
        rw [if_neg (fun q => by have := Int32.le_trans hb q; exact absurd this (by decide))]
    · unfold F_X12_rounds
      simp only [sI_th]
      rw [hw, hb]
      rfl
  | true =>
    obtain ⟨s, hs, rfl⟩ := isBlk_ex (nb := 37) (x := x) hb (by omega)
    have h2 : Lay (sR M 2 1 4 (some a)) := Lay_sR4 h
    have et := e_tryFromNow (fu := fu) h l2.2.2.2.2.2.2.1.1 l5
    have hIt : Inv C L (trT (tb 0 M) (tb 1 M)) := Inv_tr s2 l2
    obtain ⟨er, ek⟩ := e_rounds (fu := fu) (s := s) (N := sR M 2 1 4 (some a)) h2 s2 hf 37 0 fu (trT (tb 0 M) (tb 1 M)) (by omega) (by omega) hIt InV_tr
    refine op_trial (r := (rdA C s 37 0 (trT (tb 0 M) (tb 1 M))).1) (T := (rdA C s 37 0 (trT (tb 0 M) (tb 1 M))).2) (N := sR M 2 1 4 (some a)) hS ?_ rfl h2 (fun c s k q => ?_) (fun c s k q => rfl) (KE_tr KE_tr0 ek) ?_
    · unfold F_X11_rounds
      rw [if_neg (fun q => (i3_nl (a := s) (by omega)).mp q), if_pos (show i3 s ≤ 36 from (i3_le (b := 36) (by omega) (by omega)).mpr (by omega)), et]
      simp only [Option.bind_some]
      exact er
    · show (if c = 2 ∧ s = 1 ∧ k = 4 then some a else gR M c s k) = gR M c s k
      rw [if_neg (by omega)]
    · have hl1 : Lay (emb 1 (rdA C s 37 0 (trT (tb 0 M) (tb 1 M))).2 (sR M 2 1 4 (some a))) := h2
      obtain ⟨X2, k1, k2, k3, k4, k5⟩ := t_tries (fu := fu) hl1 s2 (up0_M (v := 0) s4) (up0_Rel (v := 0) l4) hf
      have he : ∃ e, trT (tb 0 M) (tb 1 M) 15 3 = i3 e ∧ 0 ≤ e ∧ e ≤ 36 := by
        have hle := eraA_le (D := trT (tb 0 M) (tb 1 M)) (nw := C 0 1) (C 0 0)
        have hT : tot C = C 0 0 * C 0 1 := rfl
        exact ⟨_, hIt.2.2.2.2.2.2.2.1, Nat.zero_le _, by omega⟩
      obtain ⟨X', r1, r2⟩ := t_rounds (fu := fu) (s := s) hl1 s2 (by omega) hf 37 0 fu (trT (tb 0 M) (tb 1 M)) X2 (by omega) (by omega) hIt InV_tr trT_142 he k3 (Rel_rg s2 (fun j k hj => trT_rg hj) k2) (fun q => by rw [k5] at q; exact absurd q (neg_i3 (by omega)))
      refine ⟨X', ?_, Fm_tr k4 r2, fun q => ?_⟩
      · unfold F_X12_rounds
        simp only [sI_th]
        rw [hw, hb]
        simp only [Option.bind_some, bz_0]
        rw [if_pos (by decide), k1]
        simp only [Option.bind_some]
        exact r1
      · have := (r2.2.2 0 (by omega) (by omega) q).1
        rw [k5] at this
        exact absurd this (neg_i3 (by omega))
end
