/-! ===== the page that parts the cuts best: the reference ===== -/
/-- the most puts that fit and say alike, as they are counted -/
def msF (fit : Nat → Bool) (sv : Nat → Nat) : Nat → Nat
  | 0 => 0
  | k + 1 => if fit k then max (msF fit sv k) (cnt (fun q => fit q && decide (sv q = sv k)) (k + 1)) else msF fit sv k
/-- how often each value was said -/
def ofX (X : xT) (fit : Nat → Bool) (sv : Nat → Nat) (i : Nat) : xT := fun j k => if j = 98 ∧ k < 257 then i3 (cnt (fun q => fit q && decide (sv q = k)) i) else X j k
/-- the least so far, and the page -/
def lkF (l0 : Nat) (mx : Nat → Nat) (ok : Nat → Bool) : Nat → Nat × Int32
  | 0 => (l0, -1)
  | k + 1 => if ok k then (if mx k < (lkF l0 mx ok k).1 then (mx k, i3 k) else lkF l0 mx ok k) else lkF l0 mx ok k
/-- a page there is -/
def okP (C : xC) (p : Nat) : Bool := isPageB C (i3 (p / 4)) (i3 (p % 4))
section
variable {M : xM} {D E X X' : xT} {C : xC} {R B S g : Nat → Int32} {fu n m i j o p q a c k l s x K P l0 : Nat} {W A : Nat → Nat} {V : Nat → Nat → Int32} {fit ok : Nat → Bool} {sv mx : Nat → Nat}
theorem msF_s : msF fit sv (k + 1) = if fit k then max (msF fit sv k) (cnt (fun q => fit q && decide (sv q = sv k)) (k + 1)) else msF fit sv k := rfl
theorem msF_le : ∀ k, msF fit sv k ≤ k
  | 0 => Nat.le_refl _
  | k + 1 => by
    have ih := msF_le k
    have h := cnt_le (fun q => fit q && decide (sv q = sv k)) (k + 1)
    unfold msF
    split
    · exact Nat.max_le.mpr ⟨by omega, h⟩
    · omega
theorem Ran_cg (h : ∀ j, X' 97 j = X 97 j) (hr : Ran C R a n W V D X M) : Ran C R a n W V D X' M := ⟨fun j hj => (h j).trans (hr.1 j hj), hr.2⟩
theorem Seen_cg (h : ∀ k, X' 95 k = X 95 k) (hS : SeenX m A B S q X) : SeenX m A B S q X' := by
  unfold SeenX at hS ⊢
  simp only [h]
  exact hS
theorem ofX_o (h : j ≠ 98) : ofX X fit sv i j k = X j k := by unfold ofX; rw [if_neg (by omega)]
theorem ofX_skip (h : fit i = false) : ofX X fit sv (i + 1) = ofX X fit sv i := by
  funext j k
  unfold ofX
  rw [cnt_s, h]
  rfl
theorem ofX_add (h : fit i = true) (hs : sv i < 257) : ofX X fit sv (i + 1) = up (ofX X fit sv i) 98 (sv i) (i3 (cnt (fun q => fit q && decide (sv q = sv i)) (i + 1))) := by
  funext j k
  rw [up_at]
  by_cases c1 : j = 98 ∧ k = sv i
  · rw [if_pos c1]
    unfold ofX
    rw [if_pos (by omega), c1.2]
  · rw [if_neg c1]
    unfold ofX
    by_cases c2 : j = 98 ∧ k < 257
    · rw [if_pos c2, if_pos c2, cnt_s]
      have : decide (sv i = k) = false := decide_eq_false (by omega)
      rw [this, Bool.and_false]
      rfl
    · rw [if_neg c2, if_neg c2]
theorem t_most26 (h : Lay M) (hB : CB C) (hE : InE (startT C D) 0 0) (hr : Ran C R a n W V D X M) (hW : WkAs n W V X) (hS : SeenX m A B S 0 X) (hf : 1100 < fu) (hp : p < 20)
    (hft : fit = fun q => sfB A B S (NS (wkN C R a W V D n) q) m) (hsv : sv = fun q => xi (NS (wkN C R a W V D n) q p + 1)) :
    L_X12_mostSaid_26 fu fu 0 (i3 p) 0 1 (mmb (ofX X fit sv 0) M) = some (i3 (msF fit sv (wkP C R a W V D n)), mmb (ofX X fit sv (wkP C R a W V D n)) M) := by
  have hn := hW.2.1
  obtain ⟨hPl, -⟩ := wkP_le (R := R) (a := a) (W := W) (V := V) hB hn hE
  have h7 := hr.1 n (Nat.le_refl _)
  refine lpc (fun l i (y : Int32 × xT) => L_X12_mostSaid_26 fu l 0 (i3 p) y.1 (i3 (i + 1)) (mmb y.2 M)) (fun i => (i3 (msF fit sv i), ofX X fit sv i)) (wkP C R a W V D n) _ ?_ ?_ fu 0 (by omega) (by omega)
  · intro l i hi
    show L_X12_mostSaid_26 fu (l + 1) 0 (i3 p) (i3 (msF fit sv i)) (i3 (i + 1)) (mmb (ofX X fit sv i) M) = L_X12_mostSaid_26 fu l 0 (i3 p) (i3 (msF fit sv (i + 1))) (i3 (i + 1 + 1)) (mmb (ofX X fit sv (i + 1)) M)
    have hr' := Ran_cg (X' := ofX X fit sv i) (fun j => ofX_o (by omega)) hr
    have hW' := Wk_fm (X' := ofX X fit sv i) hW (fun k => ofX_o (by omega))
    have hS' := Seen_cg (X' := ofX X fit sv i) (fun k => ofX_o (by omega)) hS
    have es := t_isAsSeen (fu := fu) (c := i + 1) h hB hn hE hr' hS' (by omega) (by omega) hf
    have ey := t_endSays (fu := fu) (c := i + 1) h hB hn hE hr' (by omega) (by omega) hp
    obtain ⟨w, w1, w2⟩ := NS_ok (R := R) (a := a) (W := W) (V := V) (c := i + 1) hB hn hE (by omega) (by omega) hp
    rw [show i + 1 - 1 = i by omega] at es ey w2
    have esv : sv i = w := by rw [hsv]; show xi (NS (wkN C R a W V D n) i p + 1) = w; rw [w2, xi_i3 (by omega)]
    have eft : fit i = sfB A B S (NS (wkN C R a W V D n) i) m := by rw [hft]
    rw [← eft] at es
    conv => lhs; unfold L_X12_mostSaid_26
    rw [t_putsAll h hW' ((ofX_o (by omega)).trans h7)]
    simp only [Option.bind_some]
    rw [if_neg (fun q => by have := (i3_lt (by omega) (by omega)).mp q; omega), es]
    simp only [Option.bind_some, bz_0]
    cases e : fit i with
    | false =>
      rw [if_pos rfl, ofX_skip e, i3_add1, msF_s, e, if_neg (by decide)]
    | true =>
      have hms := msF_le (fit := fit) (sv := sv) i
      have hcn := cnt_le (fun q => fit q && decide (sv q = sv i)) i
      have ev : ofX X fit sv i 98 w = i3 (cnt (fun q => fit q && decide (sv q = sv i)) i) := by unfold ofX; rw [if_pos ⟨rfl, by omega⟩, esv]
      have ec : cnt (fun q => fit q && decide (sv q = sv i)) (i + 1) = cnt (fun q => fit q && decide (sv q = sv i)) i + 1 := by rw [cnt_s, e, decide_eq_true rfl]; rfl
      have g27 : ∀ Y : xT, gR (mmb Y M) 12 0 27 = some 98 := fun Y => l12_0_27 h
      have n98 : ∀ Y : xT, gN (mmb Y M) 20 98 = 257 := fun Y => n20_98 h
      rw [if_neg (by decide), gR_mmb, l12_0_23 h, show (3 : Int32) * i3 (i + 1) = i3 (3 * (i + 1)) by rw [show (3 : Int32) = i3 3 from rfl, i3_mul], ey]
      simp only [Option.bind_some, w2, g27, n98]
      rw [xin_i3 (show w < 257 by omega) (by omega)]
      simp only [gd_t, xi_i3 (show w < 2147483648 by omega), m_98, p_98, g27, n98, ev, Option.bind_some, xin_i3 (show w < 257 by omega) (show 257 ≤ 2147483648 by omega), i3_add1, up_eq]
      rw [← ec, ← esv, ← ofX_add e (by omega), msF_s, e, if_pos rfl]
      by_cases cm : cnt (fun q => fit q && decide (sv q = sv i)) (i + 1) ≤ msF fit sv i
      · rw [if_pos ((i3_le (by omega) (by omega)).mpr cm), Nat.max_eq_left cm]
      · rw [if_neg (fun q => cm ((i3_le (by omega) (by omega)).mp q)), Nat.max_eq_right (by omega)]
  · intro l
    show L_X12_mostSaid_26 fu (l + 1) 0 (i3 p) (i3 (msF fit sv (wkP C R a W V D n))) (i3 (wkP C R a W V D n + 1)) (mmb (ofX X fit sv (wkP C R a W V D n)) M) = _
    have hW' := Wk_fm (X' := ofX X fit sv (wkP C R a W V D n)) hW (fun k => ofX_o (by omega))
    conv => lhs; unfold L_X12_mostSaid_26
    rw [t_putsAll h hW' ((ofX_o (by omega)).trans h7)]
    simp only [Option.bind_some]
    rw [if_pos ((i3_lt (by omega) (by omega)).mpr (by omega))]
theorem t_mostSaid (h : Lay M) (hB : CB C) (hE : InE (startT C D) 0 0) (hr : Ran C R a n W V D X M) (hW : WkAs n W V X) (hS : SeenX m A B S 0 X) (hf : 1100 < fu) (hp : p < 20) :
    ∃ X', F_X12_mostSaid fu 0 (i3 p) (mmb X M) = some (i3 (msF (fun q => sfB A B S (NS (wkN C R a W V D n) q) m) (fun q => xi (NS (wkN C R a W V D n) q p + 1)) (wkP C R a W V D n)), mmb X' M) ∧ ∀ j k, j ≠ 98 → X' j k = X j k := by
  refine ⟨ofX X (fun q => sfB A B S (NS (wkN C R a W V D n) q) m) (fun q => xi (NS (wkN C R a W V D n) q p + 1)) (wkP C R a W V D n), ?_, fun j k hj => ofX_o hj⟩
  unfold F_X12_mostSaid
  have h26 := t_most26 (fu := fu) h hB hE hr hW hS hf hp rfl rfl
  have g0 : (fun j k => if j = 98 ∧ k < 0 then 0 else X j k : xT) = X := by funext j k; rw [if_neg (by omega)]
  have key := lpc (fun l i (Y : xT) => L_X12_mostSaid_2 fu l 0 (i3 p) (i3 i) (mmb Y M)) (fun i => (fun j k => if j = 98 ∧ k < i then 0 else X j k)) 257 (L_X12_mostSaid_26 fu fu 0 (i3 p) 0 1 (mmb (ofX X (fun q => sfB A B S (NS (wkN C R a W V D n) q) m) (fun q => xi (NS (wkN C R a W V D n) q p + 1)) 0) M)) ?_ (fun l => ?_) fu 0 (by omega) (by omega)
  · simp only [g0] at key
    exact key.trans h26
  · intro l i hi
    show L_X12_mostSaid_2 fu (l + 1) 0 (i3 p) (i3 i) (mmb _ M) = L_X12_mostSaid_2 fu l 0 (i3 p) (i3 (i + 1)) (mmb _ M)
    conv => lhs; unfold L_X12_mostSaid_2
    simp (disch := first | assumption | omega) only [l12_0_1, l12_0_4, l12_0_5, l12_0_6, l12_0_9, l12_0_10, l12_0_11, l12_0_13, l12_0_14, l12_0_15, l12_0_16, l12_0_17, l12_0_18, l12_0_19, l12_0_23, l12_0_24, l12_0_25, l12_0_27, n20_83, n20_84, n20_85, n20_86, n20_87, n20_88, n20_89, n20_90, n20_91, n20_92, n20_93, n20_94, n20_95, n20_96, n20_97, n20_98, n21_2, n21_3, n21_4, n21_5, n21_6, n22_20, m_0, m_1, m_87, m_88, m_89, m_90, m_91, m_92, m_93, m_94, m_95, m_96, m_97, m_98, p_0, p_1, p_87, p_88, p_89, p_90, p_91, p_92, p_93, p_94, p_95, p_96, p_97, p_98, gR_mmb, gN_mmb, gL_mmb, i3_add1, i3_add, i3_mul, i3_addl, i3_mull, i3_ladd, i3_lmul, i3_div4, i3_le, i3_lt, i3_eq, i3_lel, i3_lle, i3_ltl, i3_llt, i3_eql, i3_leq, i3_nl, i3_0l, i3_nn, n1_lt, n1_le, xi_i3, xin_i3, xi_lit, xin_lit, xb0, xb1, gd_t, nz4, Option.bind_some, gR_emb, gN_emb, gL_emb, ↓reduceIte, if_true, if_false, not_true_eq_false, not_false_eq_true, eq_self, Nat.not_lt_zero, Nat.zero_le, true_or, or_true, false_or, or_false, true_and, and_true, false_and, and_false]
    rw [if_neg (by omega)]
    congr 2
    funext j k
    rw [up_at]
    by_cases c : j = 98 ∧ k = i
    · rw [if_pos c, if_pos (by omega)]
    · rw [if_neg c]
      by_cases c2 : j = 98 ∧ k < i
      · rw [if_pos c2, if_pos (by omega)]
      · rw [if_neg c2, if_neg (by omega)]
  · show L_X12_mostSaid_2 fu (l + 1) 0 (i3 p) (i3 257) (mmb _ M) = _
    conv => lhs; unfold L_X12_mostSaid_2
    rw [if_pos (show (257 : Int32) ≤ i3 257 from Int32.le_refl _)]
    rfl
theorem t_look14 (h : Lay M) (hB : CB C) (hE : InE (startT C D) 0 0) (hf : 1100 < fu) (hmx : mx = fun p => msF (fun q => sfB A B S (NS (wkN C R a W V D n) q) m) (fun q => xi (NS (wkN C R a W V D n) q p + 1)) (wkP C R a W V D n)) (hl0 : l0 ≤ 288) :
    ∀ r i l X, i + r = 20 → r < l → MCfg C X → Ran C R a n W V D X M → WkAs n W V X → SeenX m A B S 0 X →
    ∃ X', L_X12_look_14 fu l 0 (i3 (lkF l0 mx (okP C) i).1) (lkF l0 mx (okP C) i).2 (i3 i) (mmb X M) = some ((lkF l0 mx (okP C) 20).2, mmb X' M) ∧ ∀ j k, j ≠ 98 → X' j k = X j k := by
  intro r
  induction r with
  | zero =>
    intro i l X hi hl hM hr hW hS
    obtain ⟨l, rfl⟩ : ∃ k, l = k + 1 := ⟨l - 1, by omega⟩
    have e : i = 20 := by omega
    subst e
    refine ⟨X, ?_, fun _ _ _ => rfl⟩
    conv => lhs; unfold L_X12_look_14
    rw [if_pos (show (20 : Int32) ≤ i3 20 from Int32.le_refl _)]
  | succ r ih =>
    intro i l X hi hl hM hr hW hS
    obtain ⟨l, rfl⟩ : ∃ k, l = k + 1 := ⟨l - 1, by omega⟩
    have hn := hW.2.1
    obtain ⟨hPl, -⟩ := wkP_le (R := R) (a := a) (W := W) (V := V) hB hn hE
    have hlk : ∀ k, (lkF l0 mx (okP C) k).1 ≤ 288 := by
      intro k
      induction k with
      | zero => exact hl0
      | succ k ih =>
        unfold lkF
        split
        · split
          · have := msF_le (fit := fun q => sfB A B S (NS (wkN C R a W V D n) q) m) (sv := fun q => xi (NS (wkN C R a W V D n) q k + 1)) (wkP C R a W V D n)
            have e : mx k = msF (fun q => sfB A B S (NS (wkN C R a W V D n) q) m) (fun q => xi (NS (wkN C R a W V D n) q k + 1)) (wkP C R a W V D n) := by rw [hmx]
            show mx k ≤ 288
            rw [e]; omega
          · exact ih
        · exact ih
    have hli := hlk i
    have hl2 := hlk (i + 1)
    have d4 : i3 i / 4 = i3 (i / 4) := by rw [show (4 : Int32) = i3 4 from rfl, i3_div (by omega) (by omega)]
    have d5 : i3 i - i3 (i / 4) * 4 = i3 (i % 4) := by
      rw [show (4 : Int32) = i3 4 from rfl, i3_mul, i3_sub (by omega)]
      congr 1; omega
    conv => enter [1, X', 1, 1]; unfold L_X12_look_14
    rw [if_neg (fun q => by have := (i3_le (a := 20) (by omega) (by omega)).mp q; omega), nz4, gd_t, gd_t, d4, d5, t_isPage h hM hB]
    simp only [Option.bind_some, bz_0]
    have eu : lkF l0 mx (okP C) (i + 1) = if okP C i then (if mx i < (lkF l0 mx (okP C) i).1 then (mx i, i3 i) else lkF l0 mx (okP C) i) else lkF l0 mx (okP C) i := rfl
    have eok : okP C i = isPageB C (i3 (i / 4)) (i3 (i % 4)) := rfl
    rw [← eok]
    cases e : okP C i with
    | false =>
      rw [e, if_neg (by decide)] at eu
      obtain ⟨X', k1, k2⟩ := ih (i + 1) l X (by omega) (by omega) hM hr hW hS
      rw [eu] at k1
      refine ⟨X', ?_, k2⟩
      rw [if_pos rfl, i3_add1]
      exact k1
    | true =>
      rw [e, if_pos rfl] at eu
      obtain ⟨X1, s1, s2⟩ := t_mostSaid (fu := fu) h hB hE hr hW hS hf (show i < 20 by omega)
      have em : mx i = msF (fun q => sfB A B S (NS (wkN C R a W V D n) q) m) (fun q => xi (NS (wkN C R a W V D n) q i + 1)) (wkP C R a W V D n) := by rw [hmx]
      have hmi := msF_le (fit := fun q => sfB A B S (NS (wkN C R a W V D n) q) m) (sv := fun q => xi (NS (wkN C R a W V D n) q i + 1)) (wkP C R a W V D n)
      rw [← em] at s1 hmi
      obtain ⟨X', k1, k2⟩ := ih (i + 1) l X1 (by omega) (by omega) (MCfg_90 hM (fun k => s2 90 k (by omega))) (Ran_cg (fun j => s2 97 j (by omega)) hr) (Wk_fm hW (fun k => s2 92 k (by omega))) (Seen_cg (fun k => s2 95 k (by omega)) hS)
      rw [eu] at k1
      refine ⟨X', ?_, fun j k hj => (k2 j k hj).trans (s2 j k hj)⟩
      rw [if_neg (by decide), s1]
      simp only [Option.bind_some]
      unfold J_X12_look_51
      rw [i3_add1]
      by_cases cm : mx i < (lkF l0 mx (okP C) i).1
      · rw [if_pos cm] at k1
        have q1 : ¬ i3 (lkF l0 mx (okP C) i).1 ≤ i3 (mx i) := fun q => by have := (i3_le (by omega) (by omega)).mp q; omega
        rw [if_neg q1, if_neg q1]
        exact k1
      · rw [if_neg cm] at k1
        have q1 : i3 (lkF l0 mx (okP C) i).1 ≤ i3 (mx i) := (i3_le (by omega) (by omega)).mpr (by omega)
        rw [if_pos q1, if_pos q1]
        exact k1
end
