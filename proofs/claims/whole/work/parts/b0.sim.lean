/-! ===== what holds between calls ===== -/
/-- the table of disk d, read out of a world -/
def tb (d : Nat) (M : xM) : xT := fun j k => if j < 29 then M.1 (atC j) (atS d j) k else 0
/-- the reference's ints, read out of a world -/
def tX (M : xM) : xT := fun j k => if j = 0 then M.1 12 0 k else if j = 1 then M.1 22 20 k else if 87 ≤ j ∧ j < 99 then M.1 20 j k else 0
/-- a row of the reference's -/
def mrow (j : Nat) : Prop := j = 0 ∨ j = 1 ∨ 87 ≤ j ∧ j < 99
/-- letters in base b -/
def enc (b : Nat) (s : List Nat) : Nat := s.foldl (fun x y => b * x + y) 0
def PBase (a w : Nat) (M : xM) : Prop := Lay M ∧ a < 2 ∧ w < 2 ∧ gR M 11 0 1 = some a ∧ gR M 11 0 2 = some (1 - a) ∧ gR M 11 0 3 = some w ∧ gR M 11 0 4 = some (1 - w)
def PNames (C : xC) (a : Nat) (M : xM) : Prop := ∃ nm : Nat → List Nat, (∀ k, k < C 0 3 → (nm k).length ≤ 8 ∧ (∀ x, x ∈ nm k → 1 ≤ x ∧ x ≤ 26) ∧ gL M 21 a k = Int64.ofNat (enc 32 (nm k)) ∧ gL M 21 4 k = Int64.ofNat (enc 37 (nm k))) ∧ ∀ k j, k < C 0 3 → j < C 0 3 → nm k = nm j → k = j
def PDisk (C : xC) (a d b B : Nat) (M : xM) : Prop := ∃ L, L ≤ B ∧ Inv C L (tb d M) ∧ InV C (tb d M) ∧ Rel C b (tb d M) (tX M) ∧ gR M 2 d 4 = some a ∧ ∀ k, k < 6 → ∃ c, c ≤ B ∧ tb d M 0 k = i3 c
def PClue (c p v s q : Nat) (M : xM) : Prop := ∃ m A Bv S, SeenC c p v s m A Bv S M ∧ SeenX m A Bv S q (tX M)
def PMark (C : xC) (a B : Nat) (M : xM) : Prop := ∀ k, k < 2 → gI M 22 19 k = tX M 1 k ∧ (gI M 22 19 k = 0 ∨ gI M 22 19 k = 1 ∧ PDisk C a (3 + k) (535 * (1 + k)) B M ∧ PClue (1 + k) (83 + 2 * k) (84 + 2 * k) (17 + k) (535 * (1 + k)) M)
/-- whether line i can be, by the reference -/
def dcB (C : xC) (R : Nat → Int32) (a : Nat) (W : Nat → Nat) (V : Nat → Nat → Int32) (D : xT) (i : Nat) : Bool := (didT C R a true (wkN C R a W V D i) (W i) (V i 0) (V i 1) (V i 2)).1
def PJd (C : xC) (R : Nat → Int32) (a n : Nat) (W : Nat → Nat) (V : Nat → Nat → Int32) (D : xT) (M : xM) : Prop :=
  gI M 5 0 6 = fwF (dcB C R a W V D) n ∧ gI M 5 0 1 = i3 (halfF C R a n W V D n) ∧ (∀ k, k < 20 → gI M 20 46 k = findT (wkN C R a W V D n) (tot C) 17 k) ∧
  (∀ j k, (20 ≤ j ∧ j ≤ 22 ∨ j = 24) → tb 2 M j k = wkN C R a W V D n j k) ∧ tb 2 M 15 3 = wkN C R a W V D n 15 3 ∧ tb 2 M 14 3 = wkN C R a W V D n 14 3
def PJudge (C : xC) (R : Nat → Int32) (a n : Nat) (W : Nat → Nat) (V : Nat → Nat → Int32) (M : xM) : Prop :=
  (gI M 5 0 5 = 0 ∧ tX M 0 26 = 0) ∨ (gI M 5 0 5 = 1 ∧ ∃ D, InE (startT C D) 0 0 ∧ PJd C R a n W V D M ∧ (tX M 0 26 = 0 ∨ tX M 0 26 = 1 ∧ Ran C R a n W V D (tX M) M))
def PTape (M : xM) : Prop := ∃ t, t ≤ 1000 ∧ gI M 10 0 1 = i3 t ∧ tX M 0 2 = i3 t ∧ ∀ i, i < t → gI M 23 0 i = tX M 87 i ∧ ∃ c, (c = 10 ∨ 32 ≤ c ∧ c ≤ 126) ∧ tX M 87 i = i3 c
/-- the reference's words -/
def wdL : List Nat := [161942174, 36238189, 46565682932, 316688, 30047016, 324136403081, 44030523, 1258241874, 781898, 6251562, 236820925, 8760443326, 30596128, 16990, 1044894, 997153, 19741, 1891, 573, 380531536, 620976, 7977928, 26737711795]
def PWords (M : xM) : Prop := ∀ k, k < 23 → gL M 21 3 k = Int64.ofNat (wdL.getD k 0)
/-- the relation between calls: B bounds the numbers -/
def SimP (C : xC) (R : Nat → Int32) (a w n : Nat) (W : Nat → Nat) (V : Nat → Nat → Int32) (B : Nat) (M : xM) : Prop :=
  PBase a w M ∧ CB C ∧ Cfg C R a M ∧ MCfg C (tX M) ∧ RuleAs C R (tX M) ∧ PNames C a M ∧ PDisk C a 0 0 B M ∧ (tX M 0 22 = i3 0 → Lk (tb 0 M) (tX M)) ∧
  WkC n W V w M ∧ WkAs n W V (tX M) ∧ PClue 0 44 45 6 0 M ∧ PMark C a B M ∧ PJudge C R a n W V M ∧ PTape M ∧ PWords M
section
variable {M M' : xM} {D E X X' : xT} {C : xC} {R : Nat → Int32} {d e fu n m i j o p q a c k l s w K P L b B B' : Nat} {v x y : Int32} {W : Nat → Nat} {V : Nat → Nat → Int32}
theorem own_dec : ∀ d : Fin 5, ∀ j : Fin 29, own d (atC j) (atS d j) = some (j : Nat) := by decide +kernel
theorem own_oth : ∀ d : Fin 5, ∀ e : Fin 5, d ≠ e → ∀ j : Fin 16, own e (atC j) (atS d j) = none := by decide +kernel
theorem own_sh : ∀ d : Fin 5, ∀ e : Fin 5, ∀ j : Fin 29, 16 ≤ (j : Nat) → own e (atC j) (atS d j) = some (j : Nat) := by decide +kernel
theorem mow_dec : ∀ d : Fin 5, ∀ j : Fin 29, mow (atC j) (atS d j) = none := by decide +kernel
theorem own_m : ∀ d : Fin 5, own d 12 0 = none ∧ own d 22 20 = none ∧ ∀ j : Fin 99, 87 ≤ (j : Nat) → own d 20 j = none := by decide +kernel
theorem emb_tb (d : Nat) (M : xM) : emb d (tb d M) M = M := by
  refine Prod.ext ?_ rfl
  funext c s k
  show emf (own d c s) (tb d M) k (M.1 c s k) = M.1 c s k
  cases e : own d c s with
  | none => rfl
  | some j =>
    have a := own_at e
    have hj : j < 29 := by
      unfold own at e
      (repeat' split at e) <;> first | (injection e with e; omega) | cases e
    show (if j < 29 then M.1 (atC j) (atS d j) k else 0) = M.1 c s k
    rw [if_pos hj, ← a.1, ← a.2]
theorem mmb_tX (M : xM) : mmb (tX M) M = M := by
  refine Prod.ext ?_ rfl
  funext c s k
  show emf (mow c s) (tX M) k (M.1 c s k) = M.1 c s k
  cases e : mow c s with
  | none => rfl
  | some j =>
    show tX M j k = M.1 c s k
    unfold tX
    rcases mow_at e with ⟨a, b, c⟩ | ⟨a, b, c, d⟩ | ⟨a, b, c⟩
    · subst a; subst b; subst c; rfl
    · subst c; subst d; rw [if_neg (by omega), if_neg (by omega), if_pos ⟨a, b⟩]
    · subst a; subst b; subst c; rfl
theorem tb_own (hd : d < 5) (hj : j < 29) : tb d (emb d D M) j k = D j k := by
  show (if j < 29 then gI (emb d D M) (atC j) (atS d j) k else 0) = D j k
  rw [if_pos hj, gI_own (own_dec ⟨d, hd⟩ ⟨j, hj⟩)]
theorem tb_oth (hd : d < 5) (he : e < 5) (hne : d ≠ e) (hj : j < 16) : tb d (emb e D M) j k = tb d M j k := by
  show (if j < 29 then gI (emb e D M) (atC j) (atS d j) k else 0) = if j < 29 then gI M (atC j) (atS d j) k else 0
  rw [if_pos (by omega), if_pos (by omega), gI_not (own_oth ⟨d, hd⟩ ⟨e, he⟩ (fun q => hne (by injection q)) ⟨j, hj⟩)]
theorem tb_sh (hd : d < 5) (he : e < 5) (hj : 16 ≤ j) (hj2 : j < 29) : tb d (emb e D M) j k = D j k := by
  show (if j < 29 then gI (emb e D M) (atC j) (atS d j) k else 0) = D j k
  rw [if_pos hj2, gI_own (own_sh ⟨d, hd⟩ ⟨e, he⟩ ⟨j, hj2⟩ hj)]
theorem tb_one (hd : d < 5) (he : e < 5) (hj : 16 ≤ j) : tb d M j k = tb e M j k := by
  by_cases hj2 : j < 29
  · have h := tb_sh (M := M) (D := tb e M) (k := k) hd he hj hj2
    rw [emb_tb] at h
    exact h
  · unfold tb; rw [if_neg hj2, if_neg hj2]
theorem tb_mmb (hd : d < 5) : tb d (mmb X M) = tb d M := by
  funext j k
  show (if j < 29 then gI (mmb X M) (atC j) (atS d j) k else 0) = if j < 29 then gI M (atC j) (atS d j) k else 0
  by_cases hj : j < 29
  · rw [if_pos hj, if_pos hj, mI_not (mow_dec ⟨d, hd⟩ ⟨j, hj⟩)]
  · rw [if_neg hj, if_neg hj]
theorem tX_emb (hd : d < 5) : tX (emb d D M) = tX M := by
  obtain ⟨h1, h2, h3⟩ := own_m ⟨d, hd⟩
  funext j k
  show (if j = 0 then gI (emb d D M) 12 0 k else if j = 1 then gI (emb d D M) 22 20 k else if 87 ≤ j ∧ j < 99 then gI (emb d D M) 20 j k else 0) = (if j = 0 then gI M 12 0 k else if j = 1 then gI M 22 20 k else if 87 ≤ j ∧ j < 99 then gI M 20 j k else 0)
  rw [gI_not h1, gI_not h2]
  by_cases c0 : j = 0
  · rw [if_pos c0, if_pos c0]
  rw [if_neg c0, if_neg c0]
  by_cases c1 : j = 1
  · rw [if_pos c1, if_pos c1]
  rw [if_neg c1, if_neg c1]
  by_cases c2 : 87 ≤ j ∧ j < 99
  · rw [if_pos c2, if_pos c2, gI_not (h3 ⟨j, c2.2⟩ c2.1)]
  · rw [if_neg c2, if_neg c2]
theorem tX_mmb (h : mrow j) : tX (mmb X M) j k = X j k := by
  show (if j = 0 then gI (mmb X M) 12 0 k else if j = 1 then gI (mmb X M) 22 20 k else if 87 ≤ j ∧ j < 99 then gI (mmb X M) 20 j k else 0) = X j k
  rcases h with rfl | rfl | h
  · rw [if_pos rfl, mI_own rfl]
  · rw [if_neg (by decide), if_pos rfl, mI_own rfl]
  · rw [if_neg (by omega), if_neg (by omega), if_pos h]
    refine mI_own ?_
    unfold mow
    rw [if_neg (by decide), if_pos rfl, if_pos h]
theorem tX_o (h : j ≠ 0 ∧ j ≠ 1 ∧ (j < 87 ∨ 99 ≤ j)) : tX M j k = 0 := by unfold tX; rw [if_neg h.1, if_neg h.2.1, if_neg (by omega)]
/-- a disk's invariant looks at its first sixteen rows alone -/
theorem Inv_lo (h : ∀ j k, j < 16 → E j k = D j k) (hI : Inv C L D) : Inv C L E := by
  obtain ⟨hO, hA, hN, hS, hM, hC, hOo, hIB⟩ := hI
  have h10 : E 14 10 = D 14 10 := h _ _ (by omega)
  obtain ⟨i1, i2, i3', i4⟩ := In4_cg (fun j k a b => h j k (by omega)) h10 (h 15 5 (by omega)) (h 15 6 (by omega)) hA hN hS hC
  have hA2 : ∀ n, eraA E (C 0 1) n = eraA D (C 0 1) n := by
    intro n
    induction n with
    | zero => rfl
    | succ n ih => show eraA E (C 0 1) n + eraN E (C 0 1) n (C 0 1) = _ + _; rw [ih]; congr 1; unfold eraN; exact cnt_congr (fun i hi => by rw [h _ _ (by omega)])
  refine ⟨Ok_congr hO (fun j k q => h j k (by omega)), i1, i2, i3', fun a ha => ?_, i4, ⟨by rw [h _ _ (by omega)]; exact hOo.1, by rw [h _ _ (by omega)]; exact hOo.2.1, fun f hf => by rw [h _ _ (by omega), h _ _ (by omega)]; exact hOo.2.2 f hf⟩, ?_⟩
  · have hls : lsN E = lsN D := by unfold lsN; rw [h10]
    have hpg : ∀ t, pgT E t = pgT D t := fun t => by unfold pgT; rw [h _ _ (by omega), h _ _ (by omega)]
    obtain ⟨m1, m2, m3⟩ := hM a ha
    rw [h _ _ (by omega), hls]
    refine ⟨m1, m2, fun t ht q1 q2 => ?_⟩
    rw [h _ _ (by omega)] at q1
    rw [h _ _ (by omega)] at q2
    rw [hpg]; exact m3 t ht q1 q2
  · obtain ⟨b1, b2⟩ := hIB
    refine ⟨by rw [hA2, h _ _ (by omega)]; exact b1, fun k hk => ?_⟩
    obtain ⟨l, l1, l2, l3, l4⟩ := b2 k hk
    exact ⟨l, l1, by rw [h _ _ (by omega)]; exact l2, fun i hi => by rw [h _ _ (by omega)]; exact l3 i hi, by rw [h _ _ (by omega)]; exact l4⟩
theorem InV_lo (h : ∀ j k, j < 16 → E j k = D j k) (hV : InV C D) : InV C E := by
  have hw : ∀ s, isWholeT E s = isWholeT D s := fun s => by unfold isWholeT; rw [h 2 _ (by omega), h 3 _ (by omega), h 15 5 (by omega), h 15 6 (by omega)]
  have hj : ∀ s, isJourT E s = isJourT D s := fun s => by unfold isJourT; rw [h 2 _ (by omega), h 3 _ (by omega), h 15 5 (by omega)]
  have hl : ∀ s, isLeastT E s = isLeastT D s := fun s => by
    have e : (fun o => decide (E 3 o = E 3 s)) = fun o => decide (D 3 o = D 3 s) := by funext o; rw [h 3 o (by omega), h 3 s (by omega)]
    unfold isLeastT; rw [e]
  have hm : ∀ s, mapToT E s = mapToT D s := fun s => by unfold mapToT; rw [h 2 _ (by omega), h 3 _ (by omega), h 4 _ (by omega), h 5 _ (by omega), h 9 _ (by omega)]
  have hlv : liveB E = liveB D := by funext s; unfold liveB; rw [hw, hj, hl, hm, h 2 _ (by omega)]
  have hjb : jourB E = jourB D := by funext s; unfold jourB; rw [hj, hl]
  rcases hV with q | ⟨q, q1, q2, q3, q4⟩
  · exact Or.inl ((h 14 11 (by omega)).trans q)
  · refine Or.inr ⟨(h 14 11 (by omega)).trans q, ?_, ?_, fun s hs => ?_, fun k hk => ?_⟩
    · rw [h _ _ (by omega), hlv]; exact q1
    · rw [h _ _ (by omega), hjb]; exact q2
    · rw [h _ _ (by omega), hlv]; exact q3 s hs
    · rw [h _ _ (by omega), hlv]; exact q4 k hk
theorem Rel_row (h : ∀ k, b ≤ k → k < b + 502 → X' 95 k = X 95 k) (hB : CB C) (hR : Rel C b D X) : Rel C b D X' := by
  have h36 := tot36 hB
  obtain ⟨g0, g1, g2, g3, g4, g5, g6, g7, g8, g9⟩ := hR
  refine ⟨(h _ (by omega) (by omega)).trans g0, (h _ (by omega) (by omega)).trans g1, (h _ (by omega) (by omega)).trans g2, (h _ (by omega) (by omega)).trans g3, by rw [h _ (by omega) (by omega)]; exact g4, by rw [h _ (by omega) (by omega)]; exact g5, (h _ (by omega) (by omega)).trans g6, fun k hk => (h _ (by omega) (by omega)).trans (g7 k hk), fun k hk => (h _ (by omega) (by omega)).trans (g8 k hk), fun s hs => ?_⟩
  obtain ⟨u1, u2, u3⟩ := g9 s hs
  refine ⟨(h _ (by omega) (by omega)).trans u1, fun w => ?_, fun w n hn hl => ?_⟩
  · rw [h _ (by omega) (by omega), h _ (by omega) (by omega), h _ (by omega) (by omega), h _ (by omega) (by omega)]; exact u2 w
  · rw [h _ (by omega) (by omega), h _ (by omega) (by omega)]; exact u3 w n hn hl
theorem Seen_row (h : ∀ k, q + 502 ≤ k → k < q + 535 → X' 95 k = X 95 k) {A : Nat → Nat} {Bv S : Nat → Int32} (hS : SeenX m A Bv S q X) : SeenX m A Bv S q X' := by
  obtain ⟨h1, h2, h3⟩ := hS
  refine ⟨h1, (h _ (by omega) (by omega)).trans h2, fun i hi => ?_⟩
  obtain ⟨f, p, a1, a2, a3, a4, a5, a6, a7, a8⟩ := h3 i hi
  exact ⟨f, p, a1, a2, a3, (h _ (by omega) (by omega)).trans a4, (h _ (by omega) (by omega)).trans a5, (h _ (by omega) (by omega)).trans a6, (h _ (by omega) (by omega)).trans a7, a8⟩
theorem Rel_D (h : ∀ j k, j < 16 → E j k = D j k) (hR : Rel C b D X) : Rel C b E X := Rel_lo hR h
end
