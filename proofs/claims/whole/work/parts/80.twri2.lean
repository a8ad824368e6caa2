/-! ===== write: both sides, whole ===== -/
section
variable {M : xM} {D E X Y Z T P X' E' E0 E'' X'' : xT} {C : xC} {R N : Nat → Int32} {fu b d L L' s o t k n m i j p q f l w nb nw a at' r g : Nat} {x y z v u c : Int32} {nt : Bool}
theorem Okd3 (hI : Inv C L D) : Okd 3 (C 0 0) (C 0 1) D := ⟨hI.1, fun q => absurd q (by decide)⟩
theorem colR_141 {nt : Bool} {b : Nat} (hb : b < nb) : ∀ (m i : Nat) (E : xT), i + m = nw → Okd d nb nw E → (colR nt nb nw b m i E).1 ≠ -2 → (colR nt nb nw b m i E).2 14 1 = E 14 1
  | 0, i, E, hi, hO, hn => by
    unfold colR
    simp only
    rw [up_ne (by omega), up_ne (by omega), eraseT_lo (by omega) (by omega)]
  | m + 1, i, E, hi, hO, hn => by
    have hB := blk (nw := nw) hb
    unfold colR at hn ⊢
    by_cases c : E 13 (b * nw + i) = 0
    · rw [if_pos c] at hn ⊢; exact colR_141 hb m (i + 1) E (by omega) hO hn
    · rw [if_neg c] at hn ⊢
      have hP := putT_ok (nt := nt) hO
      have hS := fun s (e : (putT nt E nb nw).1 = some s) => (putT_slot hO.1 e).2.2 14 1 (by omega)
      generalize putT nt E nb nw = p at hP hS hn ⊢
      obtain ⟨o, E1⟩ := p
      cases o with
      | none => exact absurd rfl hn
      | some t =>
        simp only at hn ⊢
        rw [colR_141 hb m (i + 1) _ (by omega) (Okd_copy hP.1 (by omega)) hn, copyT_lo (by omega)]
        exact hS t rfl
theorem firstT2_141 {nt : Bool} (hO : Okd d (C 0 0) (C 0 1) D) (hn : (firstT2 C R a nt D).1 = false) : (firstT2 C R a nt D).2 14 1 = D 14 1 := by
  unfold firstT2 at hn ⊢
  by_cases c : (wantsT C R a D).1 = true
  · rw [if_pos c] at hn ⊢
    simp only at hn ⊢
    have hn2 := of_decide_eq_false hn
    have hP := pickT_spec (Okd_wants (C := C) (R := R) (a := a) hO)
    have hw : (wantsT C R a D).2 14 1 = D 14 1 := wantsT_lo (by omega)
    unfold collectT at hn2 ⊢
    generalize pickT (wantsT C R a D).2 (C 0 0) (C 0 1) = p at hP hn2 ⊢
    obtain ⟨o, E1⟩ := p
    cases o with
    | none => exact (hP.2.2 14 1 (by omega)).trans hw
    | some b => exact ((colR_141 (hP.2.1 b rfl) (C 0 1) 0 _ (by omega) hP.1 hn2).trans (hP.2.2 14 1 (by omega))).trans hw
  · rw [if_neg c]
    exact wantsT_lo (by omega)
theorem Inv_first (hB : CB C) (hI : Inv C L D) (hV : InV C D) (nt : Bool) : Inv C L (firstT2 C R a nt D).2 ∧ InV C (firstT2 C R a nt D).2 := by
  unfold firstT2
  split
  · exact ⟨Inv_collect hB (Inv_wants hI) (InV_wants hB hV) nt, InV_collect hB (Inv_wants hI) (InV_wants hB hV) nt⟩
  · exact ⟨Inv_wants hI, InV_wants hB hV⟩
theorem t_wriLoop (h : Lay M) (hb : b ≤ 2140) (hB : CB C) (hL : L + 8 < 1000000) (hf : 100 < fu) (hf' : f < C 0 3) (hp : p < C 2 f) (h12 : E0 12 f = 0) (hv : u = i3 g) (hg : g ≤ 255) (hK : k = if C 1 f = 2 then 2 else 1) (hrk : k ≤ r)
    (hr : C 1 f = 3 → k + ((keptN E0 + (if E0 9 (f * 4 + p) = 0 then 1 else 0)) / 4 + 1) ≤ r) (hr2 : r ≤ 36) (nt : Bool) :
    ∀ m i l E X, i + m = k → m < l → WI C L E0 E f p r i → Rel C b E X → MCfg C X → (X 0 22 = i3 b → Lk E X) →
    ∃ X', L_X12_writes_38 fu l 0 (i3 b) (i3 f) (i3 p) u (i3 i) (mmb X M) = some ((wriR C nt f p u m E).1, mmb X' M) ∧ Po nt b C E (wriR C nt f p u m E).2 X X' := by
  have c3 := (hB.2.2.2.2.2 f hf').1
  have hk1 : 1 ≤ k ∧ k ≤ 2 := by rw [hK]; split <;> omega
  have hJ : ∀ (i l : Nat) (X : xT), MCfg C X → L_X12_writes_38 fu (l + 1) 0 (i3 b) (i3 f) (i3 p) u (i3 i) (mmb X M) = J_X12_writes_54 fu (L_X12_writes_38 fu l) 0 (i3 b) (i3 f) (i3 p) u (i3 i) (i3 k) (i3 i) (mmb X M) := by
    intro i l X hM
    conv => lhs; unfold L_X12_writes_38
    rw [t_kindOf h hM hB hf']
    simp (disch := first | assumption | omega) only [l12_0_1, l12_0_4, l12_0_5, l12_0_6, l12_0_9, l12_0_10, l12_0_11, l12_0_13, l12_0_14, l12_0_15, l12_0_16, l12_0_17, l12_0_18, l12_0_19, l12_0_23, l12_0_24, l12_0_25, l12_0_27, n20_83, n20_84, n20_85, n20_86, n20_87, n20_88, n20_89, n20_90, n20_91, n20_92, n20_93, n20_94, n20_95, n20_96, n20_97, n20_98, n21_2, n21_3, n21_4, n21_5, n21_6, n22_20, m_0, m_1, m_87, m_88, m_89, m_90, m_91, m_92, m_93, m_94, m_95, m_96, m_97, m_98, p_0, p_1, p_87, p_88, p_89, p_90, p_91, p_92, p_93, p_94, p_95, p_96, p_97, p_98, gR_mmb, gN_mmb, gL_mmb, i3_add1, i3_add, i3_mul, i3_addl, i3_mull, i3_ladd, i3_lmul, i3_div4, i3_le, i3_lt, i3_eq, i3_lel, i3_lle, i3_ltl, i3_llt, i3_eql, i3_leq, i3_nl, i3_0l, i3_nn, n1_lt, n1_le, xi_i3, xin_i3, xi_lit, xin_lit, xb0, xb1, gd_t, nz4, Option.bind_some, gR_emb, gN_emb, gL_emb, ↓reduceIte, if_true, if_false, not_true_eq_false, not_false_eq_true, eq_self, Nat.not_lt_zero, Nat.zero_le, true_or, or_true, false_or, or_false, true_and, and_true, false_and, and_false]
    by_cases c : C 1 f = 2
    · rw [if_pos c] at hK
      rw [if_neg (fun q => q c), hK]; rfl
    · rw [if_neg c] at hK
      rw [if_pos c, hK]; rfl
  intro m
  induction m with
  | zero =>
    intro i l E X hi hl hw hR hM hLk
    obtain ⟨l, rfl⟩ : ∃ r, l = r + 1 := ⟨l - 1, by omega⟩
    rw [hJ i l X hM]
    have e : i = k := by omega
    subst e
    exact t_wriEnd h hM hb hB hR hw (by omega) hL (by omega) hLk hf hf' hp (Int32.le_refl _) h12 hr hr2 nt
  | succ m ih =>
    intro i l E X hi hl hw hR hM hLk
    obtain ⟨l, rfl⟩ : ∃ r, l = r + 1 := ⟨l - 1, by omega⟩
    rw [hJ i l X hM]
    have hw' := hw
    obtain ⟨hI, h1, -⟩ := hw
    have he : ¬ E 15 3 = 0 := by rw [h1]; exact fun q => by have := (i3_eq (a := r - i) (b := 0) (by omega) (by omega)).mp q; omega
    obtain ⟨X1, k1, k2, k3, k4, k5, k6⟩ := t_putsN (fu := fu) (M := M) (x := 1) (y := i3 f) (z := i3 p) (v := u) h hM hb hB hR hI (by omega) he (by decide) hf nt
    have hPo : Po nt b C E (putNewT nt E (C 0 0) (C 0 1) 1 (i3 f) (i3 p) u).2 X X1 := ⟨k2, k3, k4, fun e => by rw [k5] at e; exact absurd e (neg_i3 (by omega)), k6⟩
    unfold J_X12_writes_54
    rw [if_neg (show ¬ i3 k ≤ i3 i from fun q => by have := (i3_le (by omega) (by omega)).mp q; omega), k1]
    simp only [Option.bind_some]
    unfold wriR
    rcases WI_step hB hw' hL (by omega) (by omega) hr2 hf' hp hv hg nt with ⟨e1, e2, e3⟩ | ⟨e1, e2⟩
    · rw [e1, if_neg (fun q => q rfl)]
      exact ⟨X1, rfl, hPo⟩
    · rw [e1, if_pos (by decide)]
      obtain ⟨X2, w1, w2⟩ := ih (i + 1) l _ X1 (by omega) (by omega) e2 k2 k3 hPo.2.2.2.1
      rw [i3_add1, w1]
      exact ⟨X2, rfl, Po_tr hPo w2⟩
theorem WI_begin (hB : CB C) (hI : Inv C L D) (h1 : ¬ D 14 1 = 0) : WI C L D D f p (eraA D (C 0 1) (C 0 0)) 0 := ⟨hI, hI.2.2.2.2.2.2.2.1, fun t => ⟨rfl, rfl⟩, h1, fun _ => rfl, fun q => absurd q (Nat.lt_irrefl _)⟩
theorem room_is (hB : CB C) (hI : Inv C L D) (hr : roomB C D f p = true) : eraA D (C 0 1) (C 0 0) ≤ 36 ∧ roomN C D f p ≤ eraA D (C 0 1) (C 0 0) := by
  have h36 := tot36 hB
  have hle := eraA_le (D := D) (nw := C 0 1) (C 0 0)
  have hT : tot C = C 0 0 * C 0 1 := rfl
  have hk := keptN_le D
  have h8 := hB.2.2.1
  have hn : roomN C D f p ≤ 100 := by
    unfold roomN behindN
    have : (if D 9 (f * 4 + p) = 0 then 1 else 0) ≤ 1 := by split <;> omega
    generalize (if D 9 (f * 4 + p) = 0 then 1 else 0) = q at this
    split
    · omega
    · split <;> omega
  unfold roomB at hr
  rw [hI.2.2.2.2.2.2.2.1, Bool.not_eq_true', decide_eq_false_iff_not, i3_lt (by omega) (by omega)] at hr
  omega
theorem mayB_is (hB : CB C) (hm : mayB C D x y = true) : ∃ f p, f < C 0 3 ∧ p < C 2 f ∧ x = i3 f ∧ y = i3 p ∧ ¬ D 14 1 = 0 ∧ D 12 f = 0 := by
  have c5 := hB.2.2.2.1
  unfold mayB at hm
  simp only [Bool.and_eq_true, Bool.not_eq_true', decide_eq_false_iff_not, decide_eq_true_eq] at hm
  obtain ⟨f, p, hf, hp, rfl, rfl⟩ := isPage_ex hm.2.1 c5 (fun f hf => (hB.2.2.2.2.2 f hf).2.2)
  rw [xi_i3 (by omega)] at hm
  exact ⟨f, p, hf, hp, rfl, rfl, hm.1, hm.2.2.1⟩
theorem Inv_write (hB : CB C) (hI : Inv C L D) (hV : InV C D) (hL : L + 8 < 1000000) (nt : Bool) : Inv C (L + 8) (writeT C R a nt D x y v).2 ∧ InV C (writeT C R a nt D x y v).2 := by
  have hF := Inv_first (R := R) (a := a) hB hI hV nt
  unfold writeT
  split
  · rename_i hc
    simp only [Bool.and_eq_true, Bool.not_eq_true', decide_eq_false_iff_not, decide_eq_true_eq] at hc
    obtain ⟨hm, hv0, hv1⟩ := hc
    obtain ⟨f, p, hf, hp, rfl, rfl, h1, h12⟩ := mayB_is hB hm
    obtain ⟨g, hg, rfl⟩ := i3_of (Int32.not_lt.mp hv0)
    have hg2 := (i3_le (b := 255) hg (by omega)).mp hv1
    have c5 := hB.2.2.2.1
    have c4 := (hB.2.2.2.2.2 f hf).2.2
    by_cases ht : (firstT2 C R a nt D).1 = true
    · rw [if_pos ht]; exact ⟨Inv_le hF.1 (by omega) (by omega), hF.2⟩
    · rw [if_neg ht]
      have ht2 : (firstT2 C R a nt D).1 = false := by cases q : (firstT2 C R a nt D).1 with
        | false => rfl
        | true => exact absurd q ht
      have hp1 := firstT2_141 (Okd3 hI) ht2
      generalize (firstT2 C R a nt D).2 = E at hF hp1 ⊢
      rw [xi_i3 (by omega), xi_i3 (by omega)]
      unfold wriB
      split
      · rename_i hr
        obtain ⟨r1, r2⟩ := room_is hB hF.1 hr
        have hw := WI_begin (f := f) (p := p) hB hF.1 (by rw [hp1]; exact h1)
        have hn : (if C 1 f = 2 then 2 else 1) ≤ eraA E (C 0 1) (C 0 0) := by
          refine Nat.le_trans ?_ r2
          unfold roomN
          split
          · omega
          · split <;> omega
        exact Inv_wriR hB hL r1 hf hp rfl hg2 nt _ 0 E (by split <;> omega) (by split <;> omega) (by rw [Nat.zero_add]; exact hn) hw
      · exact ⟨Inv_le hF.1 (by omega) (by omega), hF.2⟩
  · exact ⟨Inv_le hI (by omega) (by omega), hV⟩
theorem t_writes (h : Lay M) (hM : MCfg C X) (hb : b ≤ 2140) (hB : CB C) (hU : RuleAs C R X) (hR : Rel C b D X) (hI : Inv C L D) (hV : InV C D) (hL : L + 8 < 1000000) (hLk : X 0 22 = i3 b → Lk D X) (hf : 1100 < fu) (hg : g ≤ 255) (nt : Bool) :
    ∃ X', F_X12_writes fu 0 (i3 b) x y (i3 g) (mmb X M) = some ((writeT C R a nt D x y (i3 g)).1, mmb X' M) ∧ Po nt b C D (writeT C R a nt D x y (i3 g)).2 X X' := by
  have hg1 : (! decide (i3 g < 0) && decide (i3 g ≤ 255)) = true := by
    have e1 : i3 g ≤ 255 := (i3_le (b := 255) (by omega) (by omega)).mpr hg
    rw [decide_eq_false (fun q => (i3_nl (a := g) (by omega)).mp q), decide_eq_true e1]; rfl
  have hF := Inv_first (R := R) (a := a) hB hI hV nt
  unfold F_X12_writes writeT
  rw [t_mayWrite h hM hb hB hR hI.2.2.2.2.1 (by omega), hg1, Bool.and_true]
  simp only [Option.bind_some]
  by_cases hm : mayB C D x y = true
  · rw [hm, if_pos (show ¬ bz true = 0 from by decide), if_pos rfl]
    obtain ⟨f, p, hf', hp, rfl, rfl, h1, h12⟩ := mayB_is hB hm
    have c5 := hB.2.2.2.1
    have c4 := (hB.2.2.2.2.2 f hf').2.2
    obtain ⟨X1, k1, k2, k3, k4, k5, k6, k7⟩ := t_cutFirst (fu := fu) (M := M) (a := a) h hM hb hB hU hR hI hV hLk hf nt
    rw [k1]
    simp only [Option.bind_some]
    have hPo : Po nt b C D (firstT2 C R a nt D).2 X X1 := ⟨k2, k3, k5, k6, k7⟩
    cases ht : (firstT2 C R a nt D).1 with
    | true =>
      rw [if_neg (show ¬ bz true = 0 from by decide), if_pos rfl]
      exact ⟨X1, rfl, hPo⟩
    | false =>
      rw [if_pos (show bz false = 0 from rfl), if_neg (by decide)]
      have hp1 := firstT2_141 (Okd3 hI) ht
      have hp12 := firstT2_12 (k := f) (j := 12) (by omega) (Okd3 hI) ht
      rw [h12] at hp12
      generalize (firstT2 C R a nt D).2 = E at hF hp1 hp12 hPo k2 k6 ⊢
      rw [xi_i3 (by omega), xi_i3 (by omega), t_hasRoom h k3 hb hB k2 hF.1.2.2.2.2.1 hF.1.2.2.2.2.2.2.2 (by omega) hf' (by omega)]
      simp only [Option.bind_some]
      unfold wriB
      cases hr : roomB C E f p with
      | false =>
        rw [if_neg (show ¬ ¬ bz false = 0 from fun q => q rfl), if_neg (by decide)]
        exact ⟨X1, rfl, hPo⟩
      | true =>
        rw [if_pos (show ¬ bz true = 0 from by decide), if_pos rfl]
        obtain ⟨r1, r2⟩ := room_is hB hF.1 hr
        have hw := WI_begin (f := f) (p := p) hB hF.1 (by rw [hp1]; exact h1)
        have hn : (if C 1 f = 2 then 2 else 1) ≤ eraA E (C 0 1) (C 0 0) := by
          refine Nat.le_trans ?_ r2
          unfold roomN
          split
          · omega
          · split <;> omega
        have hn3 : C 1 f = 3 → (if C 1 f = 2 then 2 else 1) + ((keptN E + (if E 9 (f * 4 + p) = 0 then 1 else 0)) / 4 + 1) ≤ eraA E (C 0 1) (C 0 0) := by
          intro q
          refine Nat.le_trans ?_ r2
          unfold roomN behindN
          have q2 : ¬ C 1 f = 2 := by omega
          rw [if_neg q2, if_neg q2, if_pos q]
          omega
        obtain ⟨X2, w1, w2⟩ := t_wriLoop (k := if C 1 f = 2 then 2 else 1) (M := M) h hb hB hL (show 100 < fu by omega) hf' hp hp12 rfl hg rfl hn hn3 r1 nt (if C 1 f = 2 then 2 else 1) 0 fu E X1 (by omega) (by split <;> omega) hw k2 k3 k6
        exact ⟨X2, w1, Po_tr hPo w2⟩
  · have hm2 : mayB C D x y = false := by cases q : mayB C D x y with
      | false => rfl
      | true => exact absurd q hm
    rw [hm2, if_neg (show ¬ ¬ bz false = 0 from fun q => q rfl), if_neg (by decide)]
    exact ⟨X, rfl, hR, hM, Fm_rf, hLk, Pc_rf rfl rfl⟩
end
