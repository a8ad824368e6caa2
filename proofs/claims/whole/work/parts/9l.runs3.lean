/-! ===== the work cut at all puts, in the reference ===== -/
/-- the packs of puts c and m - 1 more, in cell 5 -/
def endM (S : Nat → Nat → Nat → Nat) : Nat → Nat → xM → xM
  | _, 0, M => M
  | c, m + 1, M => endM S (c + 1) m (packM M 5 (3 * c) (S c) 3)
section
variable {M : xM} {D E X Y Z T N X' E' E0 Tc : xT} {C : xC} {R G G' : Nat → Int32} {fu b d L L' s o t k n m i j p q f l w nb nw a r g c e B K P Q : Nat} {x y z v u : Int32} {nt : Bool} {W : Nat → Nat} {V : Nat → Nat → Int32} {kk : Nat → Int32 → xM → Option xM} {S : Nat → Nat → Nat → Nat} {S1 : Nat → Nat → Nat}
theorem packM_at (hn : n ≤ 3) : gL (packM M t q S1 n) 21 d k = if d = t ∧ q ≤ k ∧ k < q + n then Int64.ofNat (hor (S1 (k - q)) 7) else gL M 21 d k := by
  induction n with
  | zero => rw [if_neg (by omega)]; rfl
  | succ n ih =>
    show (if 21 = 21 ∧ d = t ∧ k = q + n then Int64.ofNat (hor (S1 n) 7) else gL (packM M t q S1 n) 21 d k) = _
    rw [ih (by omega)]
    by_cases c1 : d = t ∧ k = q + n
    · rw [if_pos ⟨rfl, c1⟩, if_pos (by omega), c1.2, show q + n - q = n by omega]
    · rw [if_neg (fun w => c1 w.2)]
      by_cases c2 : d = t ∧ q ≤ k ∧ k < q + n
      · rw [if_pos c2, if_pos (by omega)]
      · rw [if_neg c2, if_neg (by omega)]
theorem endM_lay : ∀ (m c : Nat) {M : xM}, Lay M → Lay (endM S c m M)
  | 0, _, _, h => h
  | m + 1, c, _, h => endM_lay m (c + 1) (packM_lay h)
theorem endM_at : ∀ (m c : Nat) {M : xM}, gL (endM S c m M) 21 d k = if d = 5 ∧ 3 * c ≤ k ∧ k < 3 * (c + m) then Int64.ofNat (hor (S (k / 3) (k % 3)) 7) else gL M 21 d k
  | 0, c, M => by rw [if_neg (by omega)]; rfl
  | m + 1, c, M => by
    show gL (endM S (c + 1) m (packM M 5 (3 * c) (S c) 3)) 21 d k = _
    rw [endM_at m (c + 1), packM_at (Nat.le_refl _)]
    by_cases c1 : d = 5 ∧ 3 * (c + 1) ≤ k ∧ k < 3 * (c + 1 + m)
    · rw [if_pos c1, if_pos (by omega)]
    · rw [if_neg c1]
      by_cases c2 : d = 5 ∧ 3 * c ≤ k ∧ k < 3 * c + 3
      · rw [if_pos c2, if_pos (by omega), show k - 3 * c = k % 3 by omega, show k / 3 = c by omega]
      · rw [if_neg c2, if_neg (by omega)]
theorem t_runs112 (hB : CB C) (hf : 1100 < fu) (hP2 : P ≤ 288) : ∀ m c l X M, Lay M → c + m = P + 1 → m < l → 1 ≤ c → WkAs n W V X → MCfg C X → RuleAs C R X → X 97 n = i3 P →
    ∃ X', L_X12_runs_112 fu l 0 (i3 c) (mmb X M) = some (mmb X' (endM (fun c => dg C (mountT (cutD C R a W V D N n c) (C 0 0) (C 0 1))) c m M)) ∧ MCfg C X' ∧ RuleAs C R X' ∧ WkAs n W V X' ∧ Fm 1605 X X' := by
  intro m
  induction m with
  | zero =>
    intro c l X M h hm hl hc hW hM hU h7
    obtain ⟨l, rfl⟩ : ∃ k, l = k + 1 := ⟨l - 1, by omega⟩
    refine ⟨X, ?_, hM, hU, hW, Fm_rf⟩
    conv => lhs; unfold L_X12_runs_112
    rw [t_putsAll h hW h7]
    simp only [Option.bind_some]
    rw [if_pos ((i3_lt (by omega) (by omega)).mpr (by omega))]
    rfl
  | succ m ih =>
    intro c l X M h hm hl hc hW hM hU h7
    obtain ⟨l, rfl⟩ : ∃ k, l = k + 1 := ⟨l - 1, by omega⟩
    obtain ⟨X1, k1, k2, k3, k4, k5⟩ := t_put1 (l := l) (a := a) (R := R) (D := D) (N := N) h hB hf hc (by omega) hW hM hU h7 (by omega) hP2
    obtain ⟨X2, r1, r2, r3, r4, r5⟩ := ih (c + 1) l X1 _ (packM_lay h) (by omega) (by omega) (by omega) k4 k2 k3 ((k5.1 97 n (by omega) (by decide) (by decide) (by decide) (by decide)).trans h7)
    exact ⟨X2, k1.trans r1, r2, r3, r4, Fm_tr k5 r5⟩
theorem Rel_fm (hF : Fm q X X') (hR : Rel C p D X) (hd : p + 502 ≤ q ∨ q + 502 ≤ p) (hB : CB C) : Rel C p D X' := by
  have h36 := tot36 hB
  have r : ∀ k, p ≤ k → k < p + 502 → X' 95 k = X 95 k := fun k h1 h2 => hF.2.1 k (by omega)
  obtain ⟨g0, g1, g2, g3, g4, g5, g6, g7, g8, g9⟩ := hR
  refine ⟨(r _ (by omega) (by omega)).trans g0, (r _ (by omega) (by omega)).trans g1, (r _ (by omega) (by omega)).trans g2, (r _ (by omega) (by omega)).trans g3, by rw [r _ (by omega) (by omega)]; exact g4, by rw [r _ (by omega) (by omega)]; exact g5, (r _ (by omega) (by omega)).trans g6, fun k hk => (r _ (by omega) (by omega)).trans (g7 k hk), fun k hk => (r _ (by omega) (by omega)).trans (g8 k hk), fun s hs => ?_⟩
  obtain ⟨u1, u2, u3⟩ := g9 s hs
  refine ⟨(r _ (by omega) (by omega)).trans u1, fun w => ?_, fun w n hn hl => ?_⟩
  · rw [r _ (by omega) (by omega), r _ (by omega) (by omega), r _ (by omega) (by omega), r _ (by omega) (by omega)]; exact u2 w
  · rw [r _ (by omega) (by omega), r _ (by omega) (by omega)]; exact u3 w n hn hl
theorem Lk_fm (hF : Fm q X X') (hp : p ≤ 2140) (hne : p ≠ q) (hLk : X 0 22 = i3 p → Lk D X) : X' 0 22 = i3 p → Lk D X' := by
  intro e
  obtain ⟨a1, a2, a3⟩ := hF.2.2 p hp hne e
  have := hLk a1
  exact ⟨a2.trans this.1, a3.trans this.2⟩
theorem Fm_mv (hq : q ≤ 2140) : Fm q X (mvX X p q 502) := by
  refine ⟨fun j k h1 h2 h3 h4 h5 => ?_, fun k hk => ?_, fun b' hb' hne e => ?_⟩
  · unfold mvX; rw [if_neg (by omega), if_neg (by omega)]
  · unfold mvX; rw [if_neg (by omega), if_neg (by omega)]
  · have : mvX X p q 502 0 22 = -1 := by unfold mvX; rw [if_pos ⟨rfl, rfl⟩]
    rw [this] at e; exact absurd e (neg_i3 (by omega))
end
