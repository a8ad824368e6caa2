/-! ===== the judge: what both hold is the same ===== -/
section
variable {M M' M1 M3 N N' : xM} {D E S T X X' : xT} {C : xC} {R : Nat → Int32} {d fu n m i j o p q a c k l s t w K P L L' b b' B B' f e F g : Nat} {u v x y r z lo hi : Int32} {nt : Bool} {W : Nat → Nat} {V : Nat → Nat → Int32} {cd cd' : Nat → Bool} {S' : Nat → Nat → Nat → Nat} {S1 : Nat → Nat → Nat}
theorem fw_cg : ∀ n, (∀ i, i < n → cd i = cd' i) → fwF cd n = fwF cd' n
  | 0, _ => rfl
  | n + 1, h => by
    have ih := fw_cg n (fun i hi => h i (by omega))
    show (if cd n then fwF cd n else if 0 ≤ fwF cd n then fwF cd n else i3 n) = (if cd' n then fwF cd' n else if 0 ≤ fwF cd' n then fwF cd' n else i3 n)
    rw [ih, h n (by omega)]
theorem wkN_142 (hB : CB C) (hE : InE (startT C D) 0 0) (hi : i ≤ 24) : wkN C R a W V D i 14 2 = 0 := by
  obtain ⟨P, K, p1, p2, p3⟩ := wk_notes (R := R) (a := a) (W := W) (V := V) hB (Inv_startF (C := C) (D := D) hB) (InV_startF hB) (by omega) stF_142 (InE_stF hE) i hi
  exact p3
theorem wkN_Inv (hB : CB C) (hi : i ≤ 24) : Inv C (8 * i) (wkN C R a W V D i) ∧ InV C (wkN C R a W V D i) := by
  have := wk_Inv (R := R) (a := a) (W := W) (V := V) hB (Inv_startF (C := C) (D := D) hB) (InV_startF hB) (by omega) true i hi
  rw [Nat.zero_add] at this
  exact this
theorem cd_dc (hB : CB C) (hE : InE (startT C D) 0 0) (hi : i ≤ 24) (hW : W i < 6) : cdB C R a W V D i = dcB C R a W V D i := by
  obtain ⟨h1, h2⟩ := wkN_Inv (R := R) (a := a) (W := W) (V := V) (D := D) hB hi
  exact act_did hB h1 h2 (by omega) (wkN_142 hB hE hi) hW
theorem same_lo (h : ∀ j k, j < 16 → E j k = D j k) : SameN C E D := fun o ho => by
  have hN : isN E o ↔ isN D o := by unfold isN; rw [h 2 o (by omega)]
  exact ⟨hN, fun _ => ⟨h _ _ (by omega), h _ _ (by omega), h _ _ (by omega), h _ _ (by omega), h _ _ (by omega), fun i hi => ⟨h _ _ (by omega), h _ _ (by omega)⟩⟩⟩
theorem ft_ft (hB : CB C) (hI : Inv C L E) (hp : p < 20) : findT (findT E (tot C)) (tot C) 17 p = findT E (tot C) 17 p := by
  have hI2 : Inv C L (findT E (tot C)) := Inv_fnd hI true
  exact (says_eq hB hI hI2 (same_lo (fun j k hj => findT_lo (by omega))) (findT_lo (by omega)) (findT_lo (by omega)) (findT_lo (by omega)) hp).2
theorem wk_17 (hB : CB C) (hi : i ≤ 24) (hp : p < 20) : findT (wkN C R a W V D i) (tot C) 17 p = wkN C R a W V D i 17 p := by
  cases i with
  | zero =>
    show findT (findT (startT C D) (tot C)) (tot C) 17 p = findT (startT C D) (tot C) 17 p
    exact ft_ft hB (Inv_start hB) hp
  | succ i =>
    obtain ⟨h1, h2⟩ := wkN_Inv (R := R) (a := a) (W := W) (V := V) (D := D) (i := i) hB (by omega)
    have := Inv_did (R := R) (a := a) (k := W i) (x := V i 0) (y := V i 1) (v := V i 2) hB h1 h2 (by omega) true
    show findT (findT (didT C R a true (wkN C R a W V D i) (W i) (V i 0) (V i 1) (V i 2)).2 (tot C)) (tot C) 17 p = findT (didT C R a true (wkN C R a W V D i) (W i) (V i 0) (V i 1) (V i 2)).2 (tot C) 17 p
    exact ft_ft hB this.1 hp
theorem alike_cg {f g : Nat → Int32} (h : ∀ a, a < 20 → (D 20 (m * 20 + a) = f a ↔ E 20 (n * 20 + a) = g a)) : alikeB D m f = alikeB E n g := by
  have : alikeB D m f = true ↔ alikeB E n g = true := by
    rw [alike_iff, alike_iff]
    exact ⟨fun q a ha => (h a ha).mp (q a ha), fun q a ha => (h a ha).mpr (q a ha)⟩
  cases h1 : alikeB D m f with
  | true => rw [h1] at this; exact (this.mp rfl).symm
  | false =>
    rw [h1] at this
    cases h2 : alikeB E n g with
    | true => exact absurd (this.mpr h2) (by decide)
    | false => rfl
theorem wkP_mo (hB : CB C) (hE : InE (startT C D) 0 0) (h : i + m ≤ 24) : wkP C R a W V D i ≤ wkP C R a W V D (i + m) ∧ ∀ p, p < wkP C R a W V D i → ∀ q, q < 20 → NS (wkN C R a W V D (i + m)) p q = NS (wkN C R a W V D i) p q :=
  wk_keep (R := R) (a := a) (W := W) (V := V) hB (Inv_startF (C := C) (D := D) hB) (InV_startF hB) (by omega) stF_142 (InE_stF hE) m i h
theorem hc_hb (hB : CB C) (hE : InE (startT C D) 0 0) (hn : n ≤ 24) (hi : i < n) (hp : p < wkP C R a W V D (i + 1)) : hfC (wkN C R a W V D (i + 1)) (wkN C R a W V D i 17) p = hfB C R a n W V D i p := by
  obtain ⟨m, rfl⟩ : ∃ m, n = i + 1 + m := ⟨n - (i + 1), by omega⟩
  have hk := (wkP_mo (R := R) (a := a) (W := W) (V := V) (i := i + 1) (m := m) hB hE hn).2 p hp
  unfold hfC hfB
  congr 2
  · refine alike_cg (fun q hq => ?_)
    have := hk q hq
    unfold NS at this
    rw [this, wk_17 hB (by omega) hq]
  · refine alike_cg (fun q hq => ?_)
    have := hk q hq
    unfold NS at this
    rw [this, wk_17 hB (by omega) hq]
theorem hc_hf (hB : CB C) (hE : InE (startT C D) 0 0) (hn : n ≤ 24) : ∀ i, i ≤ n → hcF C R a W V D i = halfF C R a n W V D i
  | 0, _ => rfl
  | i + 1, hi => by
    have ih := hc_hf hB hE hn i (by omega)
    show hcF C R a W V D i + _ = halfF C R a n W V D i + _
    rw [ih]
    congr 1
    exact cnt_congr (fun q hq => hc_hb hB hE hn (by omega) (by omega))
/-! what the reference's run leaves of its world -/
theorem packM_1 : (packM M t q S1 n).1 = M.1 := by
  induction n with
  | zero => rfl
  | succ n ih => exact ih
theorem packM_R : gR (packM M t q S1 n) c s k = gR M c s k := by
  induction n with
  | zero => rfl
  | succ n ih => exact ih
theorem packM_L (h : c ≠ 21 ∨ s ≠ t) : gL (packM M t q S1 n) c s k = gL M c s k := by
  induction n with
  | zero => rfl
  | succ n ih =>
    show (if c = 21 ∧ s = t ∧ k = q + n then _ else gL (packM M t q S1 n) c s k) = _
    rw [if_neg (by omega)]; exact ih
theorem endM_1 : ∀ (m c : Nat) {M : xM}, (endM S' c m M).1 = M.1
  | 0, _, _ => rfl
  | m + 1, c, M => (endM_1 m (c + 1)).trans packM_1
theorem endM_R : ∀ (m o : Nat) {M : xM}, gR (endM S' o m M) c s k = gR M c s k
  | 0, _, _ => rfl
  | m + 1, o, M => (endM_R m (o + 1)).trans packM_R
theorem endM_L (h : c ≠ 21 ∨ s ≠ 5) : ∀ (m o : Nat) {M : xM}, gL (endM S' o m M) c s k = gL M c s k
  | 0, _, _ => rfl
  | m + 1, o, M => (endM_L h m (o + 1)).trans (packM_L h)
theorem ahM_1 : ∀ i, (ahM S' i M).1 = M.1
  | 0 => rfl
  | i + 1 => packM_1.trans (ahM_1 i)
theorem ahM_R : ∀ i, gR (ahM S' i M) c s k = gR M c s k
  | 0 => rfl
  | i + 1 => packM_R.trans (ahM_R i)
theorem ahM_L (h : c ≠ 21 ∨ s ≠ 6) : ∀ i, gL (ahM S' i M) c s k = gL M c s k
  | 0 => rfl
  | i + 1 => (packM_L h).trans (ahM_L h i)
theorem t_runs3 (h : Lay M) (hB : CB C) (hf : 1100 < fu) (hW : WkAs n W V X) (hM : MCfg C X) (hU : RuleAs C R X) (hE : InE (startT C D) 0 0) (h0 : X 0 26 = 0 ∨ X 0 26 = 1 ∧ Ran C R a n W V D X M) :
    ∃ X' M', F_X12_runs fu 0 (mmb X M) = some (mmb X' M') ∧ Ran C R a n W V D X' M' ∧ Lay M' ∧ gN M' = gN M ∧ MCfg C X' ∧ RuleAs C R X' ∧ WkAs n W V X' ∧ X' 0 26 = 1 ∧ Fr X X' ∧ M'.1 = M.1 ∧ (∀ c s k, gR M' c s k = gR M c s k) ∧ ∀ c s k, (c ≠ 21 ∨ s ≠ 5 ∧ s ≠ 6) → gL M' c s k = gL M c s k := by
  have hn := hW.2.1
  rcases h0 with h0 | ⟨h0, hr⟩
  · obtain ⟨X', k1, k2, k3, k4, k5, k6, k7, k8, k9⟩ := t_runs (fu := fu) (a := a) (R := R) (D := D) (N := D) (V := V) h hB hf hW hM hU hE h0
    exact ⟨X', _, k1, ⟨k5, fun c hc hcP m hm => ran_ends hB hn hE hc hcP hm, fun i hi m hm => ran_ahead hi hm⟩, endM_lay _ _ (ahM_lay h _), (endM_N _ _).trans (ahM_N _), k2, k3, k4, k6, ⟨k7, k8, k9⟩, (endM_1 _ _).trans (ahM_1 _), fun c s k => (endM_R _ _).trans (ahM_R _), fun c s k q => (endM_L (by omega) _ _).trans (ahM_L (by omega) _)⟩
  · refine ⟨X, M, ?_, hr, h, rfl, hM, hU, hW, h0, ⟨fun j k _ _ _ _ _ _ => ?_, fun _ _ => rfl, fun b' _ q => ⟨q, rfl, rfl⟩⟩, rfl, fun _ _ _ => rfl, fun _ _ _ _ => rfl⟩
    · unfold F_X12_runs
      rw [m_0, h0, if_neg (by decide)]
    · by_cases c1 : j = 0 ∧ k = 26
      · rw [c1.1, c1.2, up_eq, h0]
      · rw [up_ne (by omega)]
end
