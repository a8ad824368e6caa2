/-! ===== a put keeps what holds ===== -/
section
variable {M : xM} {D E X Y Z : xT} {C : xC} {R N : Nat → Int32} {fu b d L s o t k n m i j p q f l w nb nw a : Nat} {x y z v u : Int32} {nt : Bool}
theorem putA_11 : putA nt D nb nw 14 11 = 0 := by
  unfold putA
  cases nt with
  | false => simp only [Bool.false_eq_true, if_false]; exact up_eq
  | true => simp only [if_true]; rw [noteT_lo (by omega), findT_lo (by omega)]; exact up_eq
/-- what a put leaves: the spot, and the state when it isn't torn -/
def PutOf (C : xC) (D D1 : xT) (k : Nat) : Prop :=
  (∀ j k', (j < 14 ∧ j ≠ 1 ∨ j = 14 ∧ k' ≠ 11 ∧ k' ≠ 2 ∨ j = 15 ∧ k' ≠ 3 ∧ k' ≠ 4) → D1 j k' = D j k') ∧ D1 14 11 = 0 ∧ D1 14 2 = (if D 14 2 ≤ 1 then D 14 2 else D 14 2 - 1) ∧ D1 15 4 = i3 k ∧ D1 1 k = D 1 k - 1 ∧ (∀ k', k' ≠ k → D1 1 k' = D 1 k') ∧ D1 15 3 = D 15 3 - 1
theorem takeD_1 : takeD D k 1 k = D 1 k - 1 := by unfold takeD; rw [up_ne (by omega), up_eq]
theorem takeD_1n (h : m ≠ k) : takeD D k 1 m = D 1 m := by unfold takeD; rw [up_ne (by omega), up_ne (by omega), up_ne (by omega)]
theorem takeD_3 : takeD D k 15 3 = D 15 3 - 1 := by unfold takeD; exact up_eq
theorem put_frame (hB : CB C) (hI : Inv C L D) (he : ¬ D 15 3 = 0) (nt : Bool) : ∃ k l, Spot C D k l ∧ (∀ k', k' < C 0 0 → D 15 4 = i3 k' → k' = k ∨ D 1 k' = 0) ∧ k * C 0 1 + (C 0 1 - l) < tot C ∧ D 2 (k * C 0 1 + (C 0 1 - l)) = 0 ∧
    ((D 14 2 = 1 ∧ putT nt D (C 0 0) (C 0 1) = (none, tornT (putA nt (takeD D k) (C 0 0) (C 0 1)) (k * C 0 1 + (C 0 1 - l)))) ∨
     (¬ D 14 2 = 1 ∧ ∃ D1, putT nt D (C 0 0) (C 0 1) = (some (k * C 0 1 + (C 0 1 - l)), D1) ∧ PutOf C D D1 k)) := by
  obtain ⟨hO, hA, hN, hS, hM, hC, hOo, hIB⟩ := hI
  obtain ⟨k, l, h1, h2, h3⟩ := take_spot hB hO hIB he
  have h1' := h1
  obtain ⟨s1, s2, s3, s4, s5⟩ := h1
  have hBk := blk (nw := C 0 1) s1
  have hT : tot C = C 0 0 * C 0 1 := rfl
  refine ⟨k, l, h1', h3, by omega, (s5 _ (by omega)).mpr (Nat.le_refl _), ?_⟩
  have e4 : putA nt (takeD D k) (C 0 0) (C 0 1) 14 2 = D 14 2 := by rw [putA_lo (by omega), takeD_o (by omega)]
  unfold putT
  rw [h2]
  simp only [e4]
  by_cases c : D 14 2 = 1
  · left
    rw [if_pos c]
    exact ⟨c, rfl⟩
  · right
    rw [if_neg c]
    refine ⟨c, _, rfl, ?_⟩
    by_cases c2 : D 14 2 ≤ 1
    · rw [if_pos c2]
      refine ⟨fun j k' hj => by rw [putA_lo (by omega), takeD_o (by omega)], putA_11, by rw [if_pos c2, e4], ?_, ?_, fun k' hk => ?_, ?_⟩
      · rw [putA_lo (by omega), takeD_4]
      · rw [putA_lo (by omega), takeD_1]
      · rw [putA_lo (by omega), takeD_1n hk]
      · rw [putA_lo (by omega), takeD_3]
    · rw [if_neg c2]
      refine ⟨fun j k' hj => by rw [up_ne (by omega), putA_lo (by omega), takeD_o (by omega)], by rw [up_ne (by omega)]; exact putA_11, by rw [if_neg c2, up_eq], ?_, ?_, fun k' hk => ?_, ?_⟩
      · rw [up_ne (by omega), putA_lo (by omega), takeD_4]
      · rw [up_ne (by omega), putA_lo (by omega), takeD_1]
      · rw [up_ne (by omega), putA_lo (by omega), takeD_1n hk]
      · rw [up_ne (by omega), putA_lo (by omega), takeD_3]
theorem InS_torn (h : Off D E s) (hN : InN C D) (hS : InS C D) (hk : E 2 s = 4) (h3 : E 3 s = -1) : InS C E := by
  have nos : ¬ isN E s := by
    rintro (q | q | q) <;> rw [hk] at q <;> exact absurd q (by decide)
  intro t1 t2 h1 h2 hn he
  have c1 : t1 ≠ s := fun q => nos (by rw [← q]; exact hn)
  rw [isN_off h c1] at hn
  have c2 : t2 ≠ s := by
    intro q
    rw [q, h3, h.1 t1 3 c1 (by omega) (by omega), (node_seq (hN t1 h1) hn).1] at he
    exact (i3_nn (xi_lt _)).mp he
  rw [h.1 t1 3 c1 (by omega) (by omega), h.1 t2 3 c2 (by omega) (by omega)] at he
  rw [h.1 t1 2 c1 (by omega) (by omega), h.1 t2 2 c2 (by omega) (by omega), h.1 t1 4 c1 (by omega) (by omega), h.1 t2 4 c2 (by omega) (by omega), h.1 t1 5 c1 (by omega) (by omega), h.1 t2 5 c2 (by omega) (by omega), h.1 t1 6 c1 (by omega) (by omega), h.1 t2 6 c2 (by omega) (by omega)]
  have := hS t1 t2 h1 h2 hn he
  refine ⟨this.1, this.2.1, this.2.2.1, this.2.2.2.1, fun k i hi hl => ?_⟩
  rw [(h.2.1 t1 i c1 hi).1, (h.2.1 t1 i c1 hi).2, (h.2.1 t2 i c2 hi).1, (h.2.1 t2 i c2 hi).2]
  exact this.2.2.2.2 k i hi hl
/-- the power is cut at the put -/
theorem Inv_torn (hB : CB C) (hI : Inv C L D) (hSp : Spot C D k l) (hh : ∀ k', k' < C 0 0 → D 15 4 = i3 k' → k' = k ∨ D 1 k' = 0) (hs : k * C 0 1 + (C 0 1 - l) = s) (hst : s < tot C) (hs0 : D 2 s = 0)
    (hOk : Ok (C 0 0) (C 0 1) (tornT (putA nt (takeD D k) (C 0 0) (C 0 1)) s)) : Inv C L (tornT (putA nt (takeD D k) (C 0 0) (C 0 1)) s) := by
  obtain ⟨hO, hA, hN, hS, hM, hC, hOo, hIB⟩ := hI
  have tl : ∀ j k', (j ≠ 9 ∧ j ≠ 11 ∧ j ≠ 12 ∧ (j < 14 ∨ j = 14 ∧ k' ≠ 11 ∧ k' ≠ 1 ∧ k' ≠ 2 ∨ j = 15) ∧ (j < 2 ∨ 6 < j ∨ k' ≠ s)) → tornT (putA nt (takeD D k) (C 0 0) (C 0 1)) s j k' = takeD D k j k' := by
    intro j k' hj
    unfold tornT
    rw [forgetT_lo (by omega), up_ne (by omega), up_ne (by omega), fillT_lo (by omega), putA_lo (by omega)]
  have ts : ∀ j, 2 ≤ j → j ≤ 6 → tornT (putA nt (takeD D k) (C 0 0) (C 0 1)) s j s = fillT (putA nt (takeD D k) (C 0 0) (C 0 1)) s 4 (-1) (-1) (-1) (-1) j s := by
    intro j h1 h2
    unfold tornT
    rw [forgetT_lo (by omega), up_ne (by omega), up_ne (by omega)]
  have k4 : tornT (putA nt (takeD D k) (C 0 0) (C 0 1)) s 2 s = 4 := by rw [ts 2 (by omega) (by omega), fillT_2]
  have k3 : tornT (putA nt (takeD D k) (C 0 0) (C 0 1)) s 3 s = -1 := by rw [ts 3 (by omega) (by omega), fillT_3]
  have a4 : tornT (putA nt (takeD D k) (C 0 0) (C 0 1)) s 4 s = -1 := by rw [ts 4 (by omega) (by omega), fillT_4]
  have a5 : tornT (putA nt (takeD D k) (C 0 0) (C 0 1)) s 5 s = -1 := by rw [ts 5 (by omega) (by omega), fillT_5]
  have a6 : tornT (putA nt (takeD D k) (C 0 0) (C 0 1)) s 6 s = -1 := by rw [ts 6 (by omega) (by omega), fillT_6]
  have m0 : ∀ a, a < 20 → tornT (putA nt (takeD D k) (C 0 0) (C 0 1)) s 9 a = 0 := fun a ha => by unfold tornT forgetT; rw [if_pos ⟨rfl, ha⟩]
  have p0 : tornT (putA nt (takeD D k) (C 0 0) (C 0 1)) s 14 1 = 0 := by unfold tornT; rw [forgetT_lo (by omega), up_ne (by omega), up_eq]
  have p2 : tornT (putA nt (takeD D k) (C 0 0) (C 0 1)) s 14 2 = 0 := by unfold tornT; rw [forgetT_lo (by omega), up_eq]
  have b1 : ∀ f, f < 5 → tornT (putA nt (takeD D k) (C 0 0) (C 0 1)) s 11 f = 0 := fun f hf => by unfold tornT forgetT; rw [if_neg (by omega), if_pos (by omega)]
  have b2 : ∀ f, f < 5 → tornT (putA nt (takeD D k) (C 0 0) (C 0 1)) s 12 f = 0 := fun f hf => by unfold tornT forgetT; rw [if_neg (by omega), if_pos (by omega)]
  generalize tornT (putA nt (takeD D k) (C 0 0) (C 0 1)) s = T at *
  have hOff : Off D T s := ⟨fun t j ht h1 h2 => by rw [tl _ _ (by omega), takeD_o (by omega)], fun t n ht hn => ⟨by rw [tl _ _ (by omega), takeD_o (by omega)], by rw [tl _ _ (by omega), takeD_o (by omega)]⟩,
    by rw [tl _ _ (by omega), takeD_o (by omega)], by rw [tl _ _ (by omega), takeD_o (by omega)], by rw [tl _ _ (by omega), takeD_o (by omega)]⟩
  have hN2 : InN C T := InN_add hOff hN (Or.inr (Or.inl ⟨k4, k3, a4, a5, a6⟩))
  refine ⟨hOk, InA_off hOff hA, hN2, InS_torn hOff hN hS k4 k3, fun a ha => ?_, InC_fresh hOff hs0 (by rw [k4]; decide) hN hst (fun e => absurd (k4.symm.trans e) (by decide)) hC, ?_, ?_⟩
  · rw [m0 a ha]
    refine ⟨rfl, Nat.zero_le _, fun t ht hk he => ?_⟩
    exfalso
    have := node_seq (hN2 t ht) (Or.inl hk)
    rw [this.1] at he
    have := (i3_eq (a := 0) (by omega) (xi_lt _)).mp he
    have h5 : sq T t = xi (T 3 t) := rfl
    omega
  · refine ⟨Or.inl p0, ⟨0, by omega, p2⟩, fun f hf => ⟨Or.inl (b1 f hf), Or.inl (b2 f hf), fun e => absurd ((b2 f hf).symm.trans e) (by decide)⟩⟩
  · refine InB_place hB hIB hSp hh (by rw [tl _ _ (by omega), takeD_4]) (by rw [tl _ _ (by omega), takeD_1]) (fun k' hk' => by rw [tl _ _ (by omega), takeD_1n hk']) (by rw [tl _ _ (by omega), takeD_3]) ?_ (fun t ht hts => ?_)
    · rw [hs, k4]; decide
    · rw [hs] at hts; exact hOff.1 t 2 hts (by omega) (by omega)
theorem InO_put (hP : PutOf C D E k) (hO : InO D) : InO E := by
  obtain ⟨f1, f2, f3, f4, f5, f6, f7⟩ := hP
  obtain ⟨o1, ⟨c, hc, ec⟩, o3⟩ := hO
  refine ⟨by rw [f1 _ _ (by omega)]; exact o1, ?_, fun f hf => by rw [f1 _ _ (by omega), f1 _ _ (by omega)]; exact o3 f hf⟩
  rw [f3, ec]
  by_cases q : i3 c ≤ 1
  · rw [if_pos q]; exact ⟨c, hc, rfl⟩
  · rw [if_neg q]
    have : ¬ c ≤ 1 := fun r => q ((i3_le (b := 1) (by omega) (by omega)).mpr r)
    exact ⟨c - 1, by omega, by rw [show (1 : Int32) = i3 1 from rfl, i3_sub (by omega)]⟩
theorem ls_up (hA : InA L D) : lsN (up D 14 10 (D 14 10 + 1)) = lsN D + 1 ∧ up D 14 10 (D 14 10 + 1) 14 10 = i3 (lsN D + 1) := by
  obtain ⟨a1, a2, a3, a4, a5, a6, a7, a8, a9⟩ := hA
  have : up D 14 10 (D 14 10 + 1) 14 10 = i3 (lsN D + 1) := by rw [up_eq, a1, i3_add1]
  refine ⟨?_, this⟩
  unfold lsN at this ⊢
  rw [this, xi_i3 (by unfold lsN at a2; omega)]
/-- a number is used up -/
theorem Inv_last (hI : Inv C L D) (hL : L + 1 < 1000000) : Inv C (L + 1) (up D 14 10 (D 14 10 + 1)) := by
  obtain ⟨hO, hA, hN, hS, hM, hC, hOo, hIB⟩ := hI
  have hls := ls_up hA
  obtain ⟨a1, a2, a3, a4, a5, a6, a7, a8, a9⟩ := hA
  have e : ∀ j k', (j ≠ 14 ∨ k' ≠ 10) → up D 14 10 (D 14 10 + 1) j k' = D j k' := fun j k' h => up_ne (by omega)
  generalize up D 14 10 (D 14 10 + 1) = T at hls e ⊢
  have hb : bsN T = bsN D := by unfold bsN; rw [e _ _ (by omega)]
  have hw : wpN T = wpN D := by unfold wpN; rw [e _ _ (by omega)]
  have hq : ∀ t, sq T t = sq D t := fun t => by unfold sq; rw [e _ _ (by omega)]
  have hp : ∀ t, pgT T t = pgT D t := fun t => by unfold pgT; rw [e _ _ (by omega), e _ _ (by omega)]
  refine ⟨Ok_congr hO (fun j k' h => e j k' (by omega)), ⟨by rw [hls.2, hls.1], by omega, hL, by rw [e _ _ (by omega), hb]; exact a4, by rw [e _ _ (by omega), hw]; exact a5, by omega, by omega, by omega, by rw [hb, hw]; exact a9⟩, fun t ht => ?_, ?_, fun a ha => ?_, ?_, ?_, ?_⟩
  · exact node_congr (e _ _ (by omega)) (e _ _ (by omega)) (e _ _ (by omega)) (e _ _ (by omega)) (e _ _ (by omega)) (fun n hn => ⟨e _ _ (by omega), e _ _ (by omega)⟩) (by omega) (hN t ht)
  · intro t1 t2 h1 h2 hn he
    unfold isN at hn
    rw [e _ _ (by omega)] at hn
    rw [e _ _ (by omega), e _ _ (by omega)] at he
    have := hS t1 t2 h1 h2 hn he
    rw [e 2 t1 (by omega), e 2 t2 (by omega), e 4 t1 (by omega), e 4 t2 (by omega), e 5 t1 (by omega), e 5 t2 (by omega), e 6 t1 (by omega), e 6 t2 (by omega)]
    refine ⟨this.1, this.2.1, this.2.2.1, this.2.2.2.1, fun k i hi hl => ?_⟩
    rw [e 7 _ (by omega), e 7 _ (by omega), e 8 _ (by omega), e 8 _ (by omega)]
    exact this.2.2.2.2 k i hi hl
  · obtain ⟨m1, m2, m3⟩ := hM a ha
    rw [e 9 a (by omega)]
    refine ⟨m1, by omega, fun t ht hk he => ?_⟩
    rw [e _ _ (by omega)] at hk he
    rw [hp]; exact m3 t ht hk he
  · obtain ⟨c1, c2, c3, c4⟩ := hC
    unfold InC
    simp only [hb, hw, hq, hp, e 2 _ (Or.inl (by decide)), e 3 _ (Or.inl (by decide)), e 4 _ (Or.inl (by decide)), e 5 _ (Or.inl (by decide)), e 6 _ (Or.inl (by decide)), e 7 _ (Or.inl (by decide)), e 8 _ (Or.inl (by decide))]
    exact ⟨c1, c2, c3, c4⟩
  · obtain ⟨o1, o2, o3⟩ := hOo
    exact ⟨by rw [e _ _ (by omega)]; exact o1, by rw [e _ _ (by omega)]; exact o2, fun f hf => by rw [e _ _ (by omega), e _ _ (by omega)]; exact o3 f hf⟩
  · unfold InB at hIB ⊢
    have hA2 : ∀ n, eraA T (C 0 1) n = eraA D (C 0 1) n := by
      intro n
      induction n with
      | zero => rfl
      | succ n ih => show eraA T (C 0 1) n + eraN T (C 0 1) n (C 0 1) = _ + _; rw [ih]; congr 1; unfold eraN; exact cnt_congr (fun i hi => by rw [e _ _ (by omega)])
    rw [hA2, e _ _ (by omega)]
    refine ⟨hIB.1, fun k' hk' => ?_⟩
    obtain ⟨l', l1, l2, l3, l4⟩ := hIB.2 k' hk'
    exact ⟨l', l1, by rw [e _ _ (by omega)]; exact l2, fun i hi => by rw [e _ _ (by omega)]; exact l3 i hi, by rw [e _ _ (by omega)]; exact l4⟩
end
