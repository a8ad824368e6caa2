/-! ===== write: both sides ===== -/
/-- what a deed on section b leaves, both sides -/
def Po (nt : Bool) (b : Nat) (C : xC) (D D' X X' : xT) : Prop := Rel C b D' X' ∧ MCfg C X' ∧ Fm b X X' ∧ (X' 0 22 = i3 b → Lk D' X') ∧ Pc nt b D D' X X'
section
variable {M : xM} {D E X Y Z T P X' E' E0 E'' X'' : xT} {C : xC} {R N : Nat → Int32} {fu b d L L' s o t k n m i j p q f l w nb nw a at' r g : Nat} {x y z v u c : Int32} {nt : Bool}
theorem Po_tr (h1 : Po nt b C D E X Y) (h2 : Po nt b C E E' Y Z) : Po nt b C D E' X Z := ⟨h2.1, h2.2.1, Fm_tr h1.2.2.1 h2.2.2.1, h2.2.2.2.1, Pc_tr h1.2.2.2.2 h2.2.2.2.2⟩
theorem Inv_wriR (hB : CB C) (hL : L + 8 < 1000000) (hr2 : r ≤ 36) (hf : f < C 0 3) (hp : p < C 2 f) (hv : u = i3 g) (hg : g ≤ 255) (nt : Bool) :
    ∀ m i E, i + m ≤ 2 → 1 ≤ i + m → i + m ≤ r → WI C L E0 E f p r i → Inv C (L + 8) (wriR C nt f p u m E).2 ∧ InV C (wriR C nt f p u m E).2
  | 0, i, E, hi, hi1, hir, hw => by
    have hm := WI_map hB hw (by omega) hf hp
    have h11 : mapT E (f * 4 + p) 14 11 = 0 := up_eq
    have hv2 : InV C (mapT E (f * 4 + p)) := Or.inl h11
    have e1 : up (up E 9 (f * 4 + p) (E 14 10)) 14 11 0 = mapT E (f * 4 + p) := rfl
    unfold wriR wriE
    simp only [e1]
    by_cases c : C 1 f = 3
    · have a1 := Inv_le (Inv_commit hB hm (by omega) nt) (show L + i + 6 ≤ L + 8 by omega) (by omega)
      have a2 := InV_commit hB hm hv2 (by omega) nt
      rw [if_pos c]
      split
      · exact ⟨a1, a2⟩
      · exact ⟨a1, a2⟩
    · rw [if_neg c]
      exact ⟨Inv_le hm (by omega) (by omega), hv2⟩
  | m + 1, i, E, hi, hi1, hir, hw => by
    unfold wriR
    rcases WI_step hB hw hL (by omega) (by omega) hr2 hf hp hv hg nt with ⟨e1, e2, e3⟩ | ⟨e1, e2⟩
    · rw [e1]
      exact ⟨Inv_le e2 (by omega) (by omega), Or.inl e3⟩
    · rw [e1]
      exact Inv_wriR hB hL hr2 hf hp hv hg nt m (i + 1) _ (by omega) (by omega) (by omega) e2
theorem Rel_map (hR : Rel C b D X) (ha : a < 20) : Rel C b (mapT D a) (up X 95 (b + 14 + a) (D 14 10)) := by
  obtain ⟨g0, g1, g2, g3, g4, g5, g6, g7, g8, g9⟩ := hR
  have f11 : mapT D a 11 = D 11 := funext fun k => mapT_lo (by omega)
  have f12 : mapT D a 12 = D 12 := funext fun k => mapT_lo (by omega)
  refine ⟨?_, ?_, ?_, ?_, ?_, ?_, ?_, fun k' hk' => ?_, fun k' hk' => ?_, fun t ht => ?_⟩
  · rw [up_ne (by omega), mapT_lo (by omega)]; exact g0
  · rw [up_ne (by omega), mapT_lo (by omega)]; exact g1
  · rw [up_ne (by omega), mapT_lo (by omega)]; exact g2
  · rw [up_ne (by omega), mapT_lo (by omega)]; exact g3
  · rw [up_ne (by omega), f11]; exact g4
  · rw [up_ne (by omega), f12]; exact g5
  · rw [up_ne (by omega), mapT_lo (by omega)]; exact g6
  · rw [up_ne (by omega), mapT_lo (by omega)]; exact g7 k' hk'
  · by_cases c : k' = a
    · rw [c, up_eq, mapT_9]
    · rw [up_ne (by omega), mapT_lo (by omega)]; exact g8 k' hk'
  · rw [mapT_lo (by omega), mapT_lo (by omega), mapT_lo (by omega), mapT_lo (by omega), mapT_lo (by omega), up_ne (by omega), up_ne (by omega), up_ne (by omega), up_ne (by omega), up_ne (by omega)]
    refine ⟨(g9 t ht).1, (g9 t ht).2.1, fun q n hn hl => ?_⟩
    rw [up_ne (by omega), up_ne (by omega), mapT_lo (by omega), mapT_lo (by omega)]; exact (g9 t ht).2.2 q n hn hl
theorem Po_map (hR : Rel C b D X) (hM : MCfg C X) (hL : X 0 22 = i3 b → Lk D X) (hb : b ≤ 2140) (ha : a < 20) : Po nt b C D (mapT D a) X (up X 95 (b + 14 + a) (D 14 10)) :=
  ⟨Rel_map hR ha, MCfg_90 hM (fun k' => up_ne (by omega)), Fm_95 (fun j k hj => up_ne (by omega)) (fun k hk => up_ne (by omega)), fun e => by
    rw [up_ne (by omega)] at e
    have := Lk_cg (E := mapT D a) (hL e) (mapT_lo (by omega)) (mapT_lo (by omega))
    exact ⟨(up_ne (by omega)).trans this.1, (up_ne (by omega)).trans this.2⟩, Pc_rf (up_ne (by omega)) (mapT_lo (by omega))⟩
/-- the last of a write: mapped, and committed if the kind asks for it -/
theorem t_wriEnd (h : Lay M) (hM : MCfg C X) (hb : b ≤ 2140) (hB : CB C) (hR : Rel C b E X) (hw : WI C L E0 E f p r i) (hi : 0 < i) (hL : L + 8 < 1000000) (hi2 : i ≤ 2) (hLk : X 0 22 = i3 b → Lk E X) (hf : 100 < fu) (hf' : f < C 0 3) (hp : p < C 2 f) (hy : y ≤ x)
    (h12 : E0 12 f = 0) (hr : C 1 f = 3 → i + ((keptN E0 + (if E0 9 (f * 4 + p) = 0 then 1 else 0)) / 4 + 1) ≤ r) (hr2 : r ≤ 36) (nt : Bool) {K : Nat → Int32 → Int32 → Int32 → Int32 → Int32 → xM → Option (Int32 × xM)} :
    ∃ X', J_X12_writes_54 fu K 0 (i3 b) (i3 f) (i3 p) v c y x (mmb X M) = some ((wriE C nt f p E).1, mmb X' M) ∧ Po nt b C E (wriE C nt f p E).2 X X' := by
  have c5 := hB.2.2.2.1
  have c4 := (hB.2.2.2.2.2 f hf').2.2
  have c3 := (hB.2.2.2.2.2 f hf').1
  have hm := WI_map hB hw hi hf' hp
  have g0 := hR.1
  have hPm := Po_map (nt := nt) (a := f * 4 + p) hR hM hLk hb (by omega)
  have e1 : up (up E 9 (f * 4 + p) (E 14 10)) 14 11 0 = mapT E (f * 4 + p) := rfl
  have ea : b + 14 + 4 * f + p = b + 14 + (f * 4 + p) := by omega
  unfold J_X12_writes_54 wriE
  rw [if_pos hy]
  simp only [e16, e1]
  simp (disch := first | assumption | omega) only [l12_0_1, l12_0_4, l12_0_5, l12_0_6, l12_0_9, l12_0_10, l12_0_11, l12_0_13, l12_0_14, l12_0_15, l12_0_16, l12_0_17, l12_0_18, l12_0_19, l12_0_23, l12_0_24, l12_0_25, l12_0_27, n20_83, n20_84, n20_85, n20_86, n20_87, n20_88, n20_89, n20_90, n20_91, n20_92, n20_93, n20_94, n20_95, n20_96, n20_97, n20_98, n21_2, n21_3, n21_4, n21_5, n21_6, n22_20, m_0, m_1, m_87, m_88, m_89, m_90, m_91, m_92, m_93, m_94, m_95, m_96, m_97, m_98, p_0, p_1, p_87, p_88, p_89, p_90, p_91, p_92, p_93, p_94, p_95, p_96, p_97, p_98, gR_mmb, gN_mmb, gL_mmb, i3_add1, i3_add, i3_mul, i3_addl, i3_mull, i3_ladd, i3_lmul, i3_div4, i3_le, i3_lt, i3_eq, i3_lel, i3_lle, i3_ltl, i3_llt, i3_eql, i3_leq, i3_nl, i3_0l, i3_nn, n1_lt, n1_le, xi_i3, xin_i3, xi_lit, xin_lit, xb0, xb1, gd_t, nz4, Option.bind_some, gR_emb, gN_emb, gL_emb, ↓reduceIte, if_true, if_false, not_true_eq_false, not_false_eq_true, eq_self, Nat.not_lt_zero, Nat.zero_le, true_or, or_true, false_or, or_false, true_and, and_true, false_and, and_false, g0]
  rw [ea]
  generalize up X 95 (b + 14 + (f * 4 + p)) (E 14 10) = X1 at hPm ⊢
  obtain ⟨p1, p2, p3, p4, p5⟩ := hPm
  rw [t_kindOf h p2 hB hf']
  simp (disch := first | assumption | omega) only [l12_0_1, l12_0_4, l12_0_5, l12_0_6, l12_0_9, l12_0_10, l12_0_11, l12_0_13, l12_0_14, l12_0_15, l12_0_16, l12_0_17, l12_0_18, l12_0_19, l12_0_23, l12_0_24, l12_0_25, l12_0_27, n20_83, n20_84, n20_85, n20_86, n20_87, n20_88, n20_89, n20_90, n20_91, n20_92, n20_93, n20_94, n20_95, n20_96, n20_97, n20_98, n21_2, n21_3, n21_4, n21_5, n21_6, n22_20, m_0, m_1, m_87, m_88, m_89, m_90, m_91, m_92, m_93, m_94, m_95, m_96, m_97, m_98, p_0, p_1, p_87, p_88, p_89, p_90, p_91, p_92, p_93, p_94, p_95, p_96, p_97, p_98, gR_mmb, gN_mmb, gL_mmb, i3_add1, i3_add, i3_mul, i3_addl, i3_mull, i3_ladd, i3_lmul, i3_div4, i3_le, i3_lt, i3_eq, i3_lel, i3_lle, i3_ltl, i3_llt, i3_eql, i3_leq, i3_nl, i3_0l, i3_nn, n1_lt, n1_le, xi_i3, xin_i3, xi_lit, xin_lit, xb0, xb1, gd_t, nz4, Option.bind_some, gR_emb, gN_emb, gL_emb, ↓reduceIte, if_true, if_false, not_true_eq_false, not_false_eq_true, eq_self, Nat.not_lt_zero, Nat.zero_le, true_or, or_true, false_or, or_false, true_and, and_true, false_and, and_false]
  by_cases q3 : C 1 f = 3
  · rw [if_neg (fun q => q q3), if_pos q3]
    obtain ⟨X', k1, k2⟩ := t_commits (fu := fu) (M := M) h p2 hb hB p1 hm (by omega) p4 hf nt
    rw [k1]
    simp only [Option.bind_some]
    have hPo : Po nt b C E (commitT nt (mapT E (f * 4 + p)) (C 0 0) (C 0 1)).2 X X' := ⟨k2.1, k2.2.1, Fm_tr p3 k2.2.2.1, k2.2.2.2.1, Pc_tr p5 k2.2.2.2.2⟩
    have hans : (commitT nt (mapT E (f * 4 + p)) (C 0 0) (C 0 1)).1 = i3 (partsN (mapT E (f * 4 + p))) ∨ (commitT nt (mapT E (f * 4 + p)) (C 0 0) (C 0 1)).1 = -2 := by
      obtain ⟨w1, w2, w3, w4, w5, w6⟩ := hw
      obtain ⟨-, s, hs, k2', k3', -⟩ := w6 hi
      have hq : ¬ E 14 10 = 0 := by
        have := node_seq (w1.2.2.1 s hs) (Or.inl k2')
        rw [← k3', this.1]
        exact fun q => by have := (i3_eq (a := sq E s) (b := 0) (xi_lt _) (by omega)).mp q; omega
      have hk := kept_map (E := E) (a := f * 4 + p) (by omega) (by rw [show (f * 4 + p) / 4 = f by omega, (w3 f).2]; exact h12) hq
      have hkE : keptN E = keptN E0 := by
        unfold keptN
        exact cnt_congr (fun t ht => by unfold keptT; rw [(w3 t).1, (w3 (t / 4)).2])
      unfold commitT
      rw [if_neg (by rw [mapT_lo (by omega)]; exact w4)]
      have hle : i3 (partsN (mapT E (f * 4 + p))) ≤ mapT E (f * 4 + p) 15 3 := by
        rw [mapT_lo (by omega), w2]
        have := hr q3
        have := partsN_le (mapT E (f * 4 + p))
        refine (i3_le (by omega) (by omega)).mpr ?_
        unfold partsN
        rw [hk, hkE, (w3 (f * 4 + p)).1]
        omega
      rw [if_pos hle]
      exact comR_ans _ _ _ _
    have hp6 := partsN_le (mapT E (f * 4 + p))
    rcases hans with q | q
    · have n2 : ¬ (i3 (partsN (mapT E (f * 4 + p))) = -2) := fun q => by
        have := congrArg Int32.toInt q
        rw [i3_toInt (by omega)] at this
        have e5 : (-2 : Int32).toInt = -2 := by decide
        omega
      rw [if_pos (by rw [q]; exact n2), if_pos (by rw [q]; exact (i3_le (a := 0) (by omega) (by omega)).mpr (Nat.zero_le _))]
      exact ⟨X', rfl, hPo⟩
    · rw [if_neg (fun w => w q), if_neg (by rw [q]; decide)]
      exact ⟨X', rfl, hPo⟩
  · rw [if_pos q3, if_neg q3]
    exact ⟨X1, rfl, p1, p2, p3, p4, p5⟩
end
