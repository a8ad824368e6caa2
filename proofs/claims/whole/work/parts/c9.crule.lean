/-! ===== the rule's E, read: the class ===== -/
/-- what the class keeps of a code -/
def clsC (x : Nat) : Int32 := if x % 16 = 1 then i3 (x / 16) else if x % 16 = 2 then -1 - i3 (x / 16) else if x % 16 = 3 then -5 else if x % 16 = 4 then -7 else if x % 16 = 5 then -8 else if x % 16 = 6 then -6 else if x % 16 = 7 then -9 else if x % 16 = 8 then -10 else if x % 16 = 9 then -11 else -12
def CdC (a : Nat) (c : List Nat) (M : xM) : Prop := gI M 8 a 3 = i3 c.length ∧ ∀ k, k < c.length → gI M 20 (5 * a + 2) k = clsC (c.getD k 0)
def ClS (f : Nat → Nat) (t a : Nat) (q : Nat × Nat × List Nat) (M : xM) : Prop := TpC f t M ∧ CdC a q.2.2 M ∧ (q.1 = 0 → AtC f t (tS f t q.2.1) M) ∧ (q.1 ≠ 0 → gI M 10 0 9 = i3 q.1)
/-- what reading a rule leaves alone -/
def RdF (a : Nat) (M M' : xM) : Prop := (∀ c s k, gR M' c s k = gR M c s k) ∧ (∀ c s, gN M' c s = gN M c s) ∧ (∀ c s k, (c ≠ 10 ∨ s ≠ 0 ∨ k ≠ 6) → gL M' c s k = gL M c s k) ∧ ∀ c s k, (c ≠ 10 ∨ s ≠ 0 ∨ k = 1) → (c ≠ 8 ∨ s ≠ a ∨ k ≠ 3) → (c ≠ 20 ∨ s ≠ 5 * a + 2) → gI M' c s k = gI M c s k
def ClR (f : Nat → Nat) (t T a : Nat) (F : Nat → Option Nat → Int32 → xM → Option (Int32 × xM)) (r : Nat → List Nat → Nat × Nat × List Nat) (dd : Int32) : Prop :=
  ∀ i c M, i ≤ T → c.length ≤ i → ClS f t a (0, i, c) M → ∃ M', F a (some 0) dd M = some (bz (decide ((r i c).1 = 0)), M') ∧ ClS f t a (r i c) M' ∧ RdF a M M'
section
variable {M M' M1 M2 : xM} {f : Nat → Nat} {fu l t T n i j k d s x a : Nat} {c : List Nat} {q : Nat × Nat × List Nat} {r : Nat → List Nat → Nat × Nat × List Nat} {jn : Nat → Option Nat} {v dd : Int32} {F : Nat → Option Nat → Int32 → xM → Option (Int32 × xM)}
theorem RdF_tr (h : RdF a M M1) (h2 : RdF a M1 M') : RdF a M M' := ⟨fun c s k => (h2.1 c s k).trans (h.1 c s k), fun c s => (h2.2.1 c s).trans (h.2.1 c s), fun c s k q => (h2.2.2.1 c s k q).trans (h.2.2.1 c s k q), fun c s k q1 q2 q3 => (h2.2.2.2 c s k q1 q2 q3).trans (h.2.2.2 c s k q1 q2 q3)⟩
theorem RdF_rf : RdF a M M := ⟨fun _ _ _ => rfl, fun _ _ => rfl, fun _ _ _ _ => rfl, fun _ _ _ _ _ _ => rfl⟩
theorem RdF_nx (h : NxF M M') : RdF a M M' := ⟨h.1, h.2.1, h.2.2.1, fun c s k q1 q2 q3 => h.2.2.2 c s k (by omega)⟩
theorem RdF_9 : RdF a M (sI M 10 0 9 v) := ⟨fun _ _ _ => rfl, fun _ _ => rfl, fun _ _ _ _ => rfl, fun c s k q1 q2 q3 => by rw [gI_sI, if_neg (by omega)]⟩
theorem CdC_cg (h : ∀ k, gI M' 20 (5 * a + 2) k = gI M 20 (5 * a + 2) k) (h3 : gI M' 8 a 3 = gI M 8 a 3) (hC : CdC a c M) : CdC a c M' := ⟨h3.trans hC.1, fun k hk => (h k).trans (hC.2 k hk)⟩
theorem CdC_nx (h : NxF M M') (hC : CdC a c M) : CdC a c M' := CdC_cg (fun k => h.2.2.2 _ _ _ (by omega)) (h.2.2.2 _ _ _ (by omega)) hC
theorem tS_b (ht : AtC f t (tS f t i) M) : tkE f t (tS f t i) ≤ t := by
  have h1 := ht.2.1
  unfold tkE
  by_cases c : tS f t i < t
  · rw [if_pos c]
    split
    · exact (rnE_b h1).2
    · split
      · exact (rnE_b h1).2
      · omega
  · rw [if_neg c]; exact h1
/-- on to the next token -/
theorem e_nx (h : AtC f t (tS f t i) M) (hf : 1100 < fu) : ∃ M', F_X10_next fu 0 M = some M' ∧ AtC f t (tS f t (i + 1)) M' ∧ NxF M M' := e_next h.1 (tS_b h) h.2.2.2.1 hf
theorem ClS_nx (h : ClS f t a (0, i, c) M) (hf : 1100 < fu) : ∃ M', F_X10_next fu 0 M = some M' ∧ ClS f t a (0, i + 1, c) M' ∧ RdF a M M' := by
  obtain ⟨h1, h2, h3, h4⟩ := h
  obtain ⟨M', r1, r2, r3⟩ := e_nx (h3 rfl) hf
  exact ⟨M', r1, ⟨r2.1, CdC_nx r3 h2, fun _ => r2, fun q => absurd rfl q⟩, RdF_nx r3⟩
theorem emit_e (h : ClS f t a q M) (ha : a < 2) (hl : q.2.2.length < 1000) : ∃ M', F_X8_emit fu a (clsC x) M = some M' ∧ ClS f t a (pEm q x) M' ∧ RdF a M M' := by
  obtain ⟨h1, ⟨h2, h2'⟩, h3, h4⟩ := h
  have hL := h1.1
  have e3 : gI (sI M 20 (5 * a + 2) q.2.2.length (clsC x)) 8 a 3 = i3 q.2.2.length := by rw [gI_sI, if_neg (by omega)]; exact h2
  have hT : ∀ u v k', TpC f t (sI (sI M 20 (5 * a + 2) k' u) 8 a 3 v) := fun u v k' => ⟨hL, h1.2.1, by rw [gI_sI, if_neg (by omega), gI_sI, if_neg (by omega)]; exact h1.2.2.1, fun i hi => by rw [gI_sI, if_neg (by omega), gI_sI, if_neg (by omega)]; exact h1.2.2.2 i hi⟩
  refine ⟨sI (sI M 20 (5 * a + 2) q.2.2.length (clsC x)) 8 a 3 (i3 (q.2.2.length + 1)), ?_, ⟨hT _ _ _, ⟨?_, fun k hk => ?_⟩, fun q0 => ?_, fun q0 => ?_⟩, fun _ _ _ => rfl, fun _ _ => rfl, fun _ _ _ _ => rfl, fun c s k q1 q2 q3 => by rw [gI_sI, if_neg (by omega), gI_sI, if_neg (by omega)]⟩
  · unfold F_X8_emit
    rw [h2, if_neg (show ¬ (1000 : Int32) ≤ i3 q.2.2.length from fun z => by have := (i3_le (a := 1000) (by omega) (by omega)).mp z; omega), l8_0 hL ha]
    simp only [Option.bind_some]
    rw [n_p2 hL ha, xin_i3 hl (by omega), gd_t, xi_i3 (by omega), e3, i3_add1]
  · rw [gI_sI, if_pos ⟨rfl, rfl, rfl⟩]
    show i3 (q.2.2.length + 1) = i3 (q.2.2 ++ [x]).length
    rw [len_s]
  · have hk' : k < (q.2.2 ++ [x]).length := hk
    rw [len_s] at hk'
    rw [gI_sI, if_neg (by omega), gI_sI]
    show _ = clsC ((q.2.2 ++ [x]).getD k 0)
    by_cases z : k = q.2.2.length
    · rw [if_pos ⟨rfl, rfl, z⟩, z, List.getD_eq_getElem?_getD, List.getElem?_append_right (Nat.le_refl _), Nat.sub_self]
      rfl
    · rw [if_neg (fun w => z w.2.2), h2' k (by omega), List.getD_eq_getElem?_getD, List.getD_eq_getElem?_getD, List.getElem?_append_left (by omega)]
  · obtain ⟨a1, a2, a3, a4, a5, a6, a7, a8, a9⟩ := h3 q0
    have e10 : ∀ k', gI (sI (sI M 20 (5 * a + 2) q.2.2.length (clsC x)) 8 a 3 (i3 (q.2.2.length + 1))) 10 0 k' = gI M 10 0 k' := fun k' => by rw [gI_sI, if_neg (by omega), gI_sI, if_neg (by omega)]
    exact ⟨hT _ _ _, a2, (e10 _).trans a3, (e10 _).trans a4, (e10 _).trans a5, (e10 _).trans a6, fun z => (e10 _).trans (a7 z), fun z => (e10 _).trans (a8 z), a9⟩
  · rw [gI_sI, if_neg (by omega), gI_sI, if_neg (by omega)]; exact h4 q0
/-- a joint, and what stands behind it -/
theorem itr_e (ha : a < 2) (hf : 1100 < fu) (hr : ClR f t T a F r dd) (hB : pB T r) (hT : T ≤ 1000) (h : ClS f t a q M) (h0 : q.1 = 0) (hi : q.2.1 < T) (hc : q.2.2.length ≤ q.2.1) :
    ∃ M1 M2 M3, F_X10_next fu 0 M = some M1 ∧ F a (some 0) dd M1 = some (bz (decide ((r (q.2.1 + 1) q.2.2).1 = 0)), M2) ∧ F_X8_emit fu a (clsC x) M2 = some M3 ∧ ClS f t a (pEm (r (q.2.1 + 1) q.2.2) x) M3 ∧ RdF a M M3 := by
  obtain ⟨q0, qi, qc⟩ := q
  have h0' : q0 = 0 := h0
  subst h0'
  obtain ⟨M1, r1, r2, r3⟩ := ClS_nx h hf
  obtain ⟨M2, s1, s2, s3⟩ := hr (qi + 1) qc M1 hi (by show qc.length ≤ qi + 1; have : qc.length ≤ qi := hc; omega) r2
  obtain ⟨z1, z2, z3⟩ := hB (qi + 1) qc 1 hi (by have : qc.length ≤ qi := hc; omega)
  obtain ⟨M3, u1, u2, u3⟩ := emit_e (fu := fu) (x := x) s2 ha (by show (r (qi + 1) qc).2.2.length < 1000; omega)
  exact ⟨M1, M2, M3, r1, s1, u1, u2, RdF_tr r3 (RdF_tr s3 u3)⟩
end
