/-! ===== pages kept, room, may: the reference ===== -/
section
variable {M : xM} {D E X Y Z T X' E' E'' X'' : xT} {C : xC} {R N : Nat → Int32} {fu b d L s o t k n m i j p q f l w nb nw a : Nat} {x y z v u : Int32} {nt : Bool}
theorem map_le (hM : InM C D) (ha : a < 20) : (D 9 a ≤ 0) = (D 9 a = 0) := by
  have e := (hM a ha).1
  rw [e]
  have h1 := i3_le (a := xi (D 9 a)) (b := 0) (xi_lt _) (by omega)
  have h2 := i3_eq (a := xi (D 9 a)) (b := 0) (xi_lt _) (by omega)
  rw [show i3 0 = (0 : Int32) from rfl] at h1 h2
  apply propext
  rw [h1, h2]
  omega
def kepB (D : xT) (but : Int32) (a : Nat) : Bool := keptT D a && ! decide (i3 (a / 4) = but)
theorem t_pagesKept (h : Lay M) (hb : b ≤ 2140) (hR : Rel C b D X) (hM : InM C D) (hf : 100 < fu) : F_X12_pagesKept fu 0 (i3 b) x (mmb X M) = some (i3 (cnt (kepB D x) 20), mmb X M) := by
  unfold F_X12_pagesKept
  refine lpc (fun n i y => L_X12_pagesKept_5 fu n 0 (i3 b) x y (i3 i) (mmb X M)) (fun i => i3 (cnt (kepB D x) i)) 20 _ ?_ ?_ fu 0 (by omega) (by omega)
  · intro n i hi
    show L_X12_pagesKept_5 fu (n + 1) 0 (i3 b) x (i3 (cnt (kepB D x) i)) (i3 i) (mmb X M) = L_X12_pagesKept_5 fu n 0 (i3 b) x (i3 (cnt (kepB D x) (i + 1))) (i3 (i + 1)) (mmb X M)
    have r9 := hR.2.2.2.2.2.2.2.2.1 i hi
    have hm := map_le hM hi
    have h12 := bit_01 hR.2.2.2.2.2.1 (show i / 4 < 5 by omega)
    rw [cnt_s, show kepB D x i = ((decide (¬ D 9 i = 0) && decide (D 12 (i / 4) = 0)) && ! decide (i3 (i / 4) = x)) from rfl]
    conv => lhs; unfold L_X12_pagesKept_5
    simp (disch := first | assumption | omega) only [l12_0_1, l12_0_4, l12_0_5, l12_0_6, l12_0_9, l12_0_10, l12_0_11, l12_0_13, l12_0_14, l12_0_15, l12_0_16, l12_0_17, l12_0_18, l12_0_19, l12_0_23, l12_0_24, l12_0_25, l12_0_27, n20_83, n20_84, n20_85, n20_86, n20_87, n20_88, n20_89, n20_90, n20_91, n20_92, n20_93, n20_94, n20_95, n20_96, n20_97, n20_98, n21_2, n21_3, n21_4, n21_5, n21_6, n22_20, m_0, m_1, m_87, m_88, m_89, m_90, m_91, m_92, m_93, m_94, m_95, m_96, m_97, m_98, p_0, p_1, p_87, p_88, p_89, p_90, p_91, p_92, p_93, p_94, p_95, p_96, p_97, p_98, gR_mmb, gN_mmb, gL_mmb, i3_add1, i3_add, i3_mul, i3_addl, i3_mull, i3_ladd, i3_lmul, i3_div4, i3_le, i3_lt, i3_eq, i3_lel, i3_lle, i3_ltl, i3_llt, i3_eql, i3_leq, i3_nl, i3_0l, i3_nn, n1_lt, n1_le, xi_i3, xin_i3, xi_lit, xin_lit, xb0, xb1, gd_t, nz4, Option.bind_some, gR_emb, gN_emb, gL_emb, ↓reduceIte, if_true, if_false, not_true_eq_false, not_false_eq_true, eq_self, Nat.not_lt_zero, Nat.zero_le, true_or, or_true, false_or, or_false, true_and, and_true, false_and, and_false, r9, hm, t_isOrphan h hb hR (show i / 4 < 5 by omega)]
    rw [if_neg (by omega)]
    by_cases c1 : D 9 i = 0
    · simp [c1]
    · rcases h12 with c2 | c2
      · by_cases c3 : i3 (i / 4) = x
        · simp [c1, c2, c3]
        · simp [c1, c2, c3, i3_add1]
      · simp [c1, c2]
  · intro n
    show L_X12_pagesKept_5 fu (n + 1) 0 (i3 b) x (i3 (cnt (kepB D x) 20)) (i3 20) (mmb X M) = _
    conv => lhs; unfold L_X12_pagesKept_5
    simp (disch := first | assumption | omega) only [l12_0_1, l12_0_4, l12_0_5, l12_0_6, l12_0_9, l12_0_10, l12_0_11, l12_0_13, l12_0_14, l12_0_15, l12_0_16, l12_0_17, l12_0_18, l12_0_19, l12_0_23, l12_0_24, l12_0_25, l12_0_27, n20_83, n20_84, n20_85, n20_86, n20_87, n20_88, n20_89, n20_90, n20_91, n20_92, n20_93, n20_94, n20_95, n20_96, n20_97, n20_98, n21_2, n21_3, n21_4, n21_5, n21_6, n22_20, m_0, m_1, m_87, m_88, m_89, m_90, m_91, m_92, m_93, m_94, m_95, m_96, m_97, m_98, p_0, p_1, p_87, p_88, p_89, p_90, p_91, p_92, p_93, p_94, p_95, p_96, p_97, p_98, gR_mmb, gN_mmb, gL_mmb, i3_add1, i3_add, i3_mul, i3_addl, i3_mull, i3_ladd, i3_lmul, i3_div4, i3_le, i3_lt, i3_eq, i3_lel, i3_lle, i3_ltl, i3_llt, i3_eql, i3_leq, i3_nl, i3_0l, i3_nn, n1_lt, n1_le, xi_i3, xin_i3, xi_lit, xin_lit, xb0, xb1, gd_t, nz4, Option.bind_some, gR_emb, gN_emb, gL_emb, ↓reduceIte, if_true, if_false, not_true_eq_false, not_false_eq_true, eq_self, Nat.not_lt_zero, Nat.zero_le, true_or, or_true, false_or, or_false, true_and, and_true, false_and, and_false, Nat.le_refl]
theorem kept_all : cnt (kepB D (-1)) 20 = keptN D := by
  unfold keptN
  refine cnt_congr (fun i hi => ?_)
  unfold kepB
  rw [decide_eq_false (fun e => (i3_nn (a := i / 4) (by omega)).mp e)]
  simp
theorem t_partsOf (h : Lay M) (hb : b ≤ 2140) (hR : Rel C b D X) (hM : InM C D) (hf : 100 < fu) : F_X12_partsOf fu 0 (i3 b) (mmb X M) = some (i3 (partsN D), mmb X M) := by
  have := keptN_le D
  unfold F_X12_partsOf partsN
  rw [t_pagesKept h hb hR hM hf, Option.bind_some, kept_all]
  generalize keptN D = kn at this
  rw [nz4, gd_t]
  show some (i3 kn / 4 + 1, mmb X M) = _
  rw [i3_div4 (by omega), i3_add1]
theorem t_mayWrite (h : Lay M) (hC : MCfg C X) (hb : b ≤ 2140) (hB : CB C) (hR : Rel C b D X) (hM : InM C D) (hf : 100 < fu) : F_X12_mayWriteBut fu 0 (i3 b) x y (mmb X M) = some (bz (mayB C D x y), mmb X M) := by
  have r2 := hR.2.2.1
  unfold F_X12_mayWriteBut mayB
  simp (disch := first | assumption | omega) only [l12_0_1, l12_0_4, l12_0_5, l12_0_6, l12_0_9, l12_0_10, l12_0_11, l12_0_13, l12_0_14, l12_0_15, l12_0_16, l12_0_17, l12_0_18, l12_0_19, l12_0_23, l12_0_24, l12_0_25, l12_0_27, n20_83, n20_84, n20_85, n20_86, n20_87, n20_88, n20_89, n20_90, n20_91, n20_92, n20_93, n20_94, n20_95, n20_96, n20_97, n20_98, n21_2, n21_3, n21_4, n21_5, n21_6, n22_20, m_0, m_1, m_87, m_88, m_89, m_90, m_91, m_92, m_93, m_94, m_95, m_96, m_97, m_98, p_0, p_1, p_87, p_88, p_89, p_90, p_91, p_92, p_93, p_94, p_95, p_96, p_97, p_98, gR_mmb, gN_mmb, gL_mmb, i3_add1, i3_add, i3_mul, i3_addl, i3_mull, i3_ladd, i3_lmul, i3_div4, i3_le, i3_lt, i3_eq, i3_lel, i3_lle, i3_ltl, i3_llt, i3_eql, i3_leq, i3_nl, i3_0l, i3_nn, n1_lt, n1_le, xi_i3, xin_i3, xi_lit, xin_lit, xb0, xb1, gd_t, nz4, Option.bind_some, gR_emb, gN_emb, gL_emb, ↓reduceIte, if_true, if_false, not_true_eq_false, not_false_eq_true, eq_self, Nat.not_lt_zero, Nat.zero_le, true_or, or_true, false_or, or_false, true_and, and_true, false_and, and_false, r2]
  by_cases c : D 14 1 = 0
  · simp [c, bz]
  · rw [if_neg c, t_isPage h hC hB, Option.bind_some]
    cases e : isPageB C x y with
    | false => simp [bz]
    | true =>
      obtain ⟨f, p, hf', hp', rfl, rfl⟩ := isPage_ex e hB.2.2.2.1 (fun f hf => (hB.2.2.2.2.2 f hf).2.2)
      have c4 := hB.2.2.2.1
      have p4 := (hB.2.2.2.2.2 f hf').2.2
      have k4 := (hB.2.2.2.2.2 f hf').1
      rw [if_neg (show ¬ (bz true, mmb X M).1 = 0 from (by decide : ¬ bz true = 0)), t_isOrphan h hb hR (show f < 5 by omega), Option.bind_some, xi_i3 (by omega)]
      have j57 : ∀ w, w < 100 → J_X12_mayWriteBut_57 fu 0 (i3 f) (i3 p) (i3 w) (mmb X M) = some (bz (! decide (C 1 f = 1) || decide (p = w)), mmb X M) := by
        intro w hw
        unfold J_X12_mayWriteBut_57
        rw [t_kindOf h hC hB hf', Option.bind_some]
        have q1 : (i3 (C 1 f) = 1) = (C 1 f = 1) := propext (i3_eq (b := 1) (by omega) (by omega))
        have q2 : (i3 p = i3 w) = (p = w) := propext (i3_eq (by omega) (by omega))
        simp only [q1, q2, xb0, xb1, gd_t]
        by_cases w1 : C 1 f = 1 <;> by_cases w2 : p = w <;> simp [w1, w2, bz]
      have hloop := lpx (fun n i => L_X12_mayWriteBut_34 fu n 0 (i3 b) (i3 f) (i3 p) (i3 i) (mmb X M)) (fun p => decide (D 9 (f * 4 + p) = 0)) 4 (J_X12_mayWriteBut_57 fu 0 (i3 f) (i3 p) (i3 4) (mmb X M)) (fun i => J_X12_mayWriteBut_57 fu 0 (i3 f) (i3 p) (i3 i) (mmb X M)) ?_ ?_ ?_ fu (by omega)
      · by_cases c2 : D 12 f = 0
        · simp only [c2, if_true]
          refine Eq.trans hloop ?_
          unfold firstUn
          cases e9 : lst (fun p => decide (D 9 (f * 4 + p) = 0)) 4 with
          | none =>
            simp only
            rw [j57 4 (by omega)]
            have w1 : (i3 p = -1) = False := i3_nn (by omega)
            have w2 : ¬ p = 4 := by omega
            simp [c, w1, w2]
          | some i =>
            have hi := (lst_some.mp e9).1
            simp only
            rw [j57 i (by omega)]
            have q2 : (i3 p = i3 i) = (p = i) := propext (i3_eq (by omega) (by omega))
            simp [c, q2]
        · simp [c, c2, bz, gd_t, xb0]
      · intro n i hi hp
        show L_X12_mayWriteBut_34 fu (n + 1) 0 (i3 b) (i3 f) (i3 p) (i3 i) (mmb X M) = _
        simp only [decide_eq_false_iff_not] at hp
        conv => lhs; unfold L_X12_mayWriteBut_34
        rw [if_neg (by rw [i3_lle (by omega) (by decide)]; exact Nat.not_le.mpr hi), t_mapOf h hb hR (by omega) hi, Option.bind_some]
        have := map_le hM (a := f * 4 + i) (by omega)
        simp only [this, hp, if_false, i3_add1]
      · intro n i hi hp
        show L_X12_mayWriteBut_34 fu (n + 1) 0 (i3 b) (i3 f) (i3 p) (i3 i) (mmb X M) = _
        simp only [decide_eq_true_eq] at hp
        conv => lhs; unfold L_X12_mayWriteBut_34
        rw [if_neg (by rw [i3_lle (by omega) (by decide)]; exact Nat.not_le.mpr hi), t_mapOf h hb hR (by omega) hi, Option.bind_some]
        have := map_le hM (a := f * 4 + i) (by omega)
        rw [if_pos (show (D 9 (f * 4 + i), mmb X M).1 ≤ 0 from this.mpr hp)]
      · intro n
        show L_X12_mayWriteBut_34 fu (n + 1) 0 (i3 b) (i3 f) (i3 p) (i3 4) (mmb X M) = _
        conv => lhs; unfold L_X12_mayWriteBut_34
        rw [if_pos (by decide)]
theorem t_room58 (h : Lay M) (hC : MCfg C X) (hb : b ≤ 2140) (hB : CB C) (hR : Rel C b D X) (hI : InB C D) (hf : 100 < fu) : J_X12_hasRoom_58 fu 0 (i3 b) (i3 m) (i3 n) (mmb X M) = some (bz (! decide (D 15 3 < i3 (n + m + C 0 2))), mmb X M) := by
  unfold J_X12_hasRoom_58
  rw [t_erased h hC hb hB hR hI hf, Option.bind_some]
  simp (disch := first | assumption | omega) only [l12_0_1, l12_0_4, l12_0_5, l12_0_6, l12_0_9, l12_0_10, l12_0_11, l12_0_13, l12_0_14, l12_0_15, l12_0_16, l12_0_17, l12_0_18, l12_0_19, l12_0_23, l12_0_24, l12_0_25, l12_0_27, n20_83, n20_84, n20_85, n20_86, n20_87, n20_88, n20_89, n20_90, n20_91, n20_92, n20_93, n20_94, n20_95, n20_96, n20_97, n20_98, n21_2, n21_3, n21_4, n21_5, n21_6, n22_20, m_0, m_1, m_87, m_88, m_89, m_90, m_91, m_92, m_93, m_94, m_95, m_96, m_97, m_98, p_0, p_1, p_87, p_88, p_89, p_90, p_91, p_92, p_93, p_94, p_95, p_96, p_97, p_98, gR_mmb, gN_mmb, gL_mmb, i3_add1, i3_add, i3_mul, i3_addl, i3_mull, i3_ladd, i3_lmul, i3_div4, i3_le, i3_lt, i3_eq, i3_lel, i3_lle, i3_ltl, i3_llt, i3_eql, i3_leq, i3_nl, i3_0l, i3_nn, n1_lt, n1_le, xi_i3, xin_i3, xi_lit, xin_lit, xb0, xb1, gd_t, nz4, Option.bind_some, gR_emb, gN_emb, gL_emb, ↓reduceIte, if_true, if_false, not_true_eq_false, not_false_eq_true, eq_self, Nat.not_lt_zero, Nat.zero_le, true_or, or_true, false_or, or_false, true_and, and_true, false_and, and_false, hC.2.2.1]
  by_cases q : D 15 3 < i3 (n + m + C 0 2)
  · simp only [if_pos q, decide_eq_true q]; rfl
  · simp only [if_neg q, decide_eq_false q]; rfl
theorem t_room21 (h : Lay M) (hC : MCfg C X) (hb : b ≤ 2140) (hB : CB C) (hR : Rel C b D X) (hI : InB C D) (hf : 100 < fu) (hf' : f < C 0 3) (hm : m < 100) (hr : p = (if C 1 f = 2 then 2 else if C 1 f = 3 then 1 + (m / 4 + 1) else 1) + (m / 4 + 1) + C 0 2) {w1 w2 : Int32} (hw : w1 + w2 = i3 m) :
    J_X12_hasRoom_21 fu 0 (i3 b) (i3 f) w2 w1 (mmb X M) = some (bz (! decide (D 15 3 < i3 p)), mmb X M) := by
  have k4 := (hB.2.2.2.2.2 f hf').1
  have q1 : (i3 (C 1 f) = 2) = (C 1 f = 2) := propext (i3_eq (b := 2) (by omega) (by omega))
  have q2 : (i3 (C 1 f) = 3) = (C 1 f = 3) := propext (i3_eq (b := 3) (by omega) (by omega))
  unfold J_X12_hasRoom_21
  rw [nz4, gd_t]
  simp only [hw]
  rw [i3_div4 (by omega), i3_add1, t_kindOf h hC hB hf', Option.bind_some]
  simp only [q1]
  by_cases c1 : C 1 f = 2
  · rw [if_neg (not_not_intro c1)]
    rw [if_pos c1] at hr
    rw [hr]
    exact t_room58 h hC hb hB hR hI hf (n := 2)
  · rw [if_pos c1, t_kindOf h hC hB hf', Option.bind_some]
    rw [if_neg c1] at hr
    simp only [q2]
    by_cases c2 : C 1 f = 3
    · rw [if_neg (not_not_intro c2)]
      rw [if_pos c2] at hr
      rw [hr, i3_ladd]
      exact t_room58 h hC hb hB hR hI hf
    · rw [if_pos c2]
      rw [if_neg c2] at hr
      rw [hr]
      exact t_room58 h hC hb hB hR hI hf (n := 1)
theorem t_hasRoom (h : Lay M) (hC : MCfg C X) (hb : b ≤ 2140) (hB : CB C) (hR : Rel C b D X) (hM : InM C D) (hI : InB C D) (hf : 100 < fu) (hf' : f < C 0 3) (hp : p < 4) : F_X12_hasRoom fu 0 (i3 b) (i3 f) (i3 p) (mmb X M) = some (bz (roomB C D f p), mmb X M) := by
  have c4 := hB.2.2.2.1
  have hk := keptN_le D
  unfold F_X12_hasRoom roomB
  rw [t_pagesKept h hb hR hM hf, Option.bind_some, kept_all, t_mapOf h hb hR (by omega) hp, Option.bind_some]
  simp only [map_le hM (show f * 4 + p < 20 by omega)]
  by_cases c : D 9 (f * 4 + p) = 0
  · rw [if_pos c]
    exact t_room21 h hC hb hB hR hI hf hf' (m := keptN D + 1) (by omega) (by unfold roomN behindN; rw [if_pos c]) (i3_add _ 1)
  · rw [if_neg c]
    exact t_room21 h hC hb hB hR hI hf hf' (m := keptN D) (by omega) (by unfold roomN behindN; rw [if_neg c]; rfl) (Int32.add_zero _)
end
