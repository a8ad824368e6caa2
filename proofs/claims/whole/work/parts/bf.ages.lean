/-! ===== works by draws: both sides ===== -/
theorem nx_ex : ∃ f : Nat → Nat, ∀ x, f x = (x * 1103515245 + 12345) % 2147483648 := ⟨_, fun _ => rfl⟩
/-- the next number (by choice: so nothing unfolds its great literals) -/
noncomputable def nxD : Nat → Nat := Classical.choose nx_ex
theorem nxD_s (x : Nat) : nxD x = (x * 1103515245 + 12345) % 2147483648 := Classical.choose_spec nx_ex x
theorem dr_ex : ∃ f : Nat → Nat → Nat, ∀ x m, f x m = nxD x / 65536 % m := ⟨_, fun _ _ => rfl⟩
noncomputable def drD : Nat → Nat → Nat := Classical.choose dr_ex
theorem drD_s (x m : Nat) : drD x m = nxD x / 65536 % m := Classical.choose_spec dr_ex x m
/-- what is drawn: kind, file, page, value, the next -/
noncomputable def agK (F x : Nat) (T : xT) : Nat × Nat × Nat × Nat × Nat :=
  if drD x 8 = 6 then (4, 0, 0, 0, nxD x) else if drD x 8 = 7 then (5, 0, 0, 0, nxD x) else if drD x 8 = 4 then (1, drD (nxD x) F, 0, 0, nxD (nxD x))
  else if drD x 8 = 5 then (if T 11 (drD (nxD x) F) = 0 then 2 else 3, drD (nxD x) F, 0, 0, nxD (nxD x))
  else (0, drD (nxD x) F, drD (nxD (nxD x)) 4, drD (nxD (nxD (nxD x))) 256, nxD (nxD (nxD (nxD x))))
/-- how many could be, the state of the draws, the disk, behind n acts -/
noncomputable def agF (C : xC) (R : Nat → Int32) (a : Nat) (x : Nat) (T : xT) : Nat → Nat × Nat × xT
  | 0 => (0, x, T)
  | n + 1 =>
    let s := agF C R a x T n
    let q := agK (C 0 3) s.2.1 s.2.2
    let r := didT C R a false s.2.2 q.1 (i3 q.2.1) (i3 q.2.2.1) (i3 q.2.2.2.1)
    (if r.1 then s.1 + 1 else s.1, q.2.2.2.2, r.2)
section
variable {M M' N N' : xM} {D E S T X X' : xT} {C : xC} {R : Nat → Int32} {d fu n m i j o p q a c k l s t w K P L L' b B B' f e F g : Nat} {u v x y r z : Int32} {nt : Bool} {W : Nat → Nat} {V : Nat → Nat → Int32}
theorem nxD_lt (x : Nat) : nxD x < 2147483648 := by
  rw [nxD_s]
  exact Nat.mod_lt _ (by decide)
theorem drD_lt (x m : Nat) (hm : 0 < m) : drD x m < m := by
  rw [drD_s]
  exact Nat.mod_lt _ hm
theorem l_next {x : Nat} (hx : x < 2147483648) : (Int64.ofNat x * 1103515245 + 12345) - (Int64.ofNat x * 1103515245 + 12345) / 2147483648 * 2147483648 = Int64.ofNat (nxD x) := by
  have h1 : Int64.ofNat x * 1103515245 + 12345 = Int64.ofNat (x * 1103515245 + 12345) := by rw [Int64.ofNat_add, Int64.ofNat_mul]; rfl
  have h2 : x * 1103515245 + 12345 < 9223372036854775808 := by omega
  have h3 : x * 1103515245 + 12345 - (x * 1103515245 + 12345) / 2147483648 * 2147483648 = nxD x := by rw [nxD_s]; omega
  have h4 : (x * 1103515245 + 12345) / 2147483648 * 2147483648 ≤ x * 1103515245 + 12345 := by omega
  have h5 : (2147483648 : Int64) = Int64.ofNat 2147483648 := rfl
  rw [h1, h5, ← Int64.ofNat_div h2 (by omega), ← Int64.ofNat_mul, ← Int64.ofNat_sub _ _ h4, h3]
theorem l_i64 (hm : m < 2147483648) : Int32.toInt64 (i3 m) = Int64.ofNat m := Int32.toInt64_ofNat' (by
  have : Int32.maxValue.toInt = 2147483647 := by decide
  omega)
theorem l_nz (hm : 0 < m) (hm2 : m < 2147483648) : (!(Int32.toInt64 (i3 m) == 0)) = true := by
  rw [l_i64 hm2]
  have : ¬ Int64.ofNat m = 0 := fun q => by
    have := inj64 (v := m) (w := 0) (by omega) (by omega) q
    omega
  simpa using this
theorem l_draw (hg : g < 2147483648) (hm : 0 < m) (hm2 : m < 2147483648) : Int64.toInt32 (Int64.ofNat g / 65536 - Int64.ofNat g / 65536 / Int32.toInt64 (i3 m) * Int32.toInt64 (i3 m)) = i3 (g / 65536 % m) := by
  have h1 : g / 65536 / m * m ≤ g / 65536 := Nat.div_mul_le_self _ _
  rw [l_i64 hm2, show (65536 : Int64) = Int64.ofNat 65536 from rfl, ← Int64.ofNat_div (by omega) (by decide), ← Int64.ofNat_div (by omega) (by omega), ← Int64.ofNat_mul, ← Int64.ofNat_sub _ _ h1, to32]
  show i3 _ = i3 _
  congr 1
  rw [Nat.mod_def, Nat.mul_comm]
theorem gL_sL {v : Int64} : gL (sL N c s k v) c s k = v := by
  show (if c = c ∧ s = s ∧ k = k then v else gL N c s k) = v
  rw [if_pos ⟨rfl, rfl, rfl⟩]
theorem sL_sL {u v : Int64} : sL (sL N c s k u) c s k v = sL N c s k v := by
  refine Prod.ext rfl (Prod.ext ?_ rfl)
  funext c' s' k'
  show (if c' = c ∧ s' = s ∧ k' = k then v else if c' = c ∧ s' = s ∧ k' = k then u else N.2.1 c' s' k') = if c' = c ∧ s' = s ∧ k' = k then v else N.2.1 c' s' k'
  by_cases q : c' = c ∧ s' = s ∧ k' = k
  · rw [if_pos q, if_pos q]
  · rw [if_neg q, if_neg q, if_neg q]
theorem mz31 : (!((2147483648 : Int64) == 0)) = true := by
  have h : ¬ (2147483648 : Int64) = 0 := fun q => by
    have := inj64 (v := 2147483648) (w := 0) (by omega) (by omega) q
    omega
  rw [Bool.not_eq_true', beq_eq_false_iff_ne]
  exact h
theorem mz16 : (!((65536 : Int64) == 0)) = true := by
  have h : ¬ (65536 : Int64) = 0 := fun q => by
    have := inj64 (v := 65536) (w := 0) (by omega) (by omega) q
    omega
  rw [Bool.not_eq_true', beq_eq_false_iff_ne]
  exact h
theorem e_draw {x : Nat} (hx : x < 2147483648) (hm : 0 < m) (hm2 : m < 2147483648) : F_X6_drawBelow fu 0 (i3 m) (emb d T (sL N 6 0 0 (Int64.ofNat x))) = some (i3 (drD x m), emb d T (sL N 6 0 0 (Int64.ofNat (nxD x)))) := by
  have e1 : ∀ v, sL (emb d T (sL N 6 0 0 (Int64.ofNat x))) 6 0 0 v = emb d T (sL N 6 0 0 v) := fun v => by
    show emb d T (sL (sL N 6 0 0 (Int64.ofNat x)) 6 0 0 v) = _
    rw [sL_sL]
  unfold F_X6_drawBelow
  rw [mz31, gd_t]
  simp only [gL_emb, gL_sL, l_next hx, e1]
  rw [if_neg (fun q => by have := (i3_le (b := 0) hm2 (by omega)).mp q; omega), mz16, gd_t, l_nz hm hm2, gd_t, l_draw (nxD_lt x) hm hm2, ← drD_s]
theorem t_draw {x : Nat} (hx : x < 2147483648) (hm : 0 < m) (hm2 : m < 2147483648) : F_X12_draw fu 0 (i3 m) (mmb X (sL N 12 0 28 (Int64.ofNat x))) = some (i3 (drD x m), mmb X (sL N 12 0 28 (Int64.ofNat (nxD x)))) := by
  have e1 : ∀ v, sL (mmb X (sL N 12 0 28 (Int64.ofNat x))) 12 0 28 v = mmb X (sL N 12 0 28 v) := fun v => by
    show mmb X (sL (sL N 12 0 28 (Int64.ofNat x)) 12 0 28 v) = _
    rw [sL_sL]
  unfold F_X12_draw
  rw [mz31, gd_t]
  simp only [gL_mmb, gL_sL, l_next hx, e1]
  rw [mz16, gd_t, l_nz hm hm2, gd_t, l_draw (nxD_lt x) hm hm2, ← drD_s]
theorem agK_ok {x : Nat} (hF : 0 < F) : (agK F x T).1 < 6 ∧ (agK F x T).2.1 < F ∧ (agK F x T).2.2.1 < 4 ∧ (agK F x T).2.2.2.1 ≤ 255 ∧ (agK F x T).2.2.2.2 < 2147483648 := by
  have h1 := drD_lt (nxD x) F hF
  have h2 := drD_lt (nxD (nxD x)) 4 (by omega)
  have h3 := drD_lt (nxD (nxD (nxD x))) 256 (by omega)
  have h0 := nxD_lt x
  have h00 := nxD_lt (nxD x)
  have h000 := nxD_lt (nxD (nxD (nxD x)))
  unfold agK
  split
  · exact ⟨(by omega : (4 : Nat) < 6), hF, (by omega : (0 : Nat) < 4), (by omega : (0 : Nat) ≤ 255), h0⟩
  split
  · exact ⟨(by omega : (5 : Nat) < 6), hF, (by omega : (0 : Nat) < 4), (by omega : (0 : Nat) ≤ 255), h0⟩
  split
  · exact ⟨(by omega : (1 : Nat) < 6), h1, (by omega : (0 : Nat) < 4), (by omega : (0 : Nat) ≤ 255), h00⟩
  split
  · exact ⟨(by split <;> omega : (if T 11 (drD (nxD x) F) = 0 then 2 else 3) < 6), h1, (by omega : (0 : Nat) < 4), (by omega : (0 : Nat) ≤ 255), h00⟩
  · exact ⟨(by omega : (0 : Nat) < 6), h1, h2, (by omega : drD (nxD (nxD (nxD x))) 256 ≤ 255), h000⟩
theorem actOf_0 {o : Int32} {M : xM} (h4 : k ≠ 4) (h5 : k ≠ 5) (h6 : k ≠ 6) (h7 : k ≠ 7) (hk : k < 8) : F_X6_actOf fu (i3 k) o M = some (0, M) := by
  unfold F_X6_actOf
  have q4 : ¬ i3 k = 4 := fun q => h4 ((i3_eq (b := 4) (by omega) (by omega)).mp q)
  have q5 : ¬ i3 k = 5 := fun q => h5 ((i3_eq (b := 5) (by omega) (by omega)).mp q)
  have q6 : ¬ i3 k = 6 := fun q => h6 ((i3_eq (b := 6) (by omega) (by omega)).mp q)
  have q7 : ¬ i3 k = 7 := fun q => h7 ((i3_eq (b := 7) (by omega) (by omega)).mp q)
  rw [if_neg q4, if_neg q5, if_neg q6, if_neg q7]
end
