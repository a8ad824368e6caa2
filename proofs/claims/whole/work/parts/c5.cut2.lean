/-! ===== tokens: all of them, the reference: the loop ===== -/
section
variable {M M' M1 N N' N0 : xM} {X Y Z Y' : xT} {P : Nat → Bool} {f : Nat → Nat} {fu l n m i j k t p q s e c w a b T : Nat} {v u : Int32} {x y : Int64} {kk : Nat → Int32 → Int32 → xM → Option xM}
theorem gL_sLk {N : xM} {i j : Nat} {x : Int64} : gL (sL N 21 2 i x) 21 2 j = if j = i then x else gL N 21 2 j := by
  show (if 21 = 21 ∧ 2 = 2 ∧ j = i then x else gL N 21 2 j) = _
  by_cases q : j = i
  · rw [if_pos ⟨rfl, rfl, q⟩, if_pos q]
  · rw [if_neg (fun z => q z.2.2), if_neg q]
theorem TkI_s (h : TkI f t i Y N) (hs : tS f t i = p) (hp : p < t) (h8 : u = i3 (tkT f t p)) (hv : x = tkV f t p) : TkI f t (i + 1) (up (up Y 89 i (i3 p)) 88 i u) (sL N 21 2 i x) := fun j hj => by
  by_cases q : j = i
  · subst q
    rw [hs]
    refine ⟨hp, ?_, ?_, ?_⟩
    · rw [up_eq]; exact h8
    · rw [up_ne (by omega), up_eq]
    · rw [gL_sLk, if_pos rfl]; exact hv
  · obtain ⟨a1, a2, a3, a4⟩ := h j (by omega)
    refine ⟨a1, ?_, ?_, ?_⟩
    · rw [up_ne (by omega), up_ne (by omega)]; exact a2
    · rw [up_ne (by omega), up_ne (by omega)]; exact a3
    · rw [gL_sLk, if_neg q]; exact a4
theorem TpT_up (h : TpT f t Y) (hj : j = 88 ∨ j = 89) : TpT f t (up Y j k v) := by
  obtain ⟨h1, h2, h3⟩ := h
  refine ⟨h1, (up_ne (by omega)).trans h2, fun i hi => ?_⟩
  rw [up_ne (by omega)]
  exact h3 i hi
theorem t_cut17 (hf : 1100 < fu) : ∀ l p i Y N, t - p < l → p ≤ t → i ≤ p → LnF N0 N → TpT f t Y → TkI f t i Y N → tS f t i = rnE isBl f t p → (∀ j k, j ≠ 88 → j ≠ 89 → Y j k = X j k) →
    ∃ Y' N' T, L_X12_cutAll_17 fu l 0 (i3 i) (i3 p) (mmb Y N) = some (mmb Y' N') ∧ LnF N0 N' ∧ TkI f t T Y' N' ∧ tS f t T = t ∧ T ≤ t ∧ Y' 88 T = 0 ∧ Y' 89 T = i3 t ∧ Y' 0 7 = 0 ∧ Y' 0 8 = 0 ∧ ∀ j k, j ≠ 88 → j ≠ 89 → (j ≠ 0 ∨ k ≠ 7 ∧ k ≠ 8) → Y' j k = X j k := by
  intro l
  induction l with
  | zero => intro p i Y N hl; omega
  | succ l ih =>
    intro p i Y N hl hp hi hLn hT hTk hS hX
    have h := hLn.1
    have ht := hT.1
    by_cases c : p < t
    · obtain ⟨g1, g2⟩ := TpT_i hT c
      have hnl : L_X12_cutAll_17 fu (l + 1) 0 (i3 i) (i3 p) (mmb Y N) = if i3 (f p) = 10 then L_X12_cutAll_17 fu l 0 (i3 i) (i3 (p + 1)) (mmb Y N) else
          if ¬ i3 (f p) = 32 then
            (F_X12_isLetter fu (i3 (f p)) (mmb (up Y 89 i (i3 p)) N)).bind fun p_12 =>
            if p_12.1 = 0 then
              (F_X12_isDigit fu (i3 (f p)) p_12.2).bind fun p_13 =>
              if p_13.1 = 0 then
                (F_X12_isSignOf fu (i3 (f p)) p_13.2).bind fun p_15 =>
                if p_15.1 = 0 then
                  (gR p_13.2 12 0 4).bind fun a_16 =>
                  gd (xin (i3 i) (gN p_15.2 20 a_16)) <|
                  (gR (sI p_15.2 20 a_16 (xi (i3 i)) 4) 12 0 6).bind fun a_18 =>
                  gd (xin (i3 i) (gN (sI p_15.2 20 a_16 (xi (i3 i)) 4) 21 a_18)) <|
                  L_X12_cutAll_17 fu l 0 (i3 i + 1) (i3 p + 1) (sL (sI p_15.2 20 a_16 (xi (i3 i)) 4) 21 a_18 (xi (i3 i)) (Int32.toInt64 (i3 (f p))))
                else
                  (gR p_13.2 12 0 4).bind fun a_20 =>
                  gd (xin (i3 i) (gN p_15.2 20 a_20)) <|
                  (gR (sI p_15.2 20 a_20 (xi (i3 i)) 3) 12 0 6).bind fun a_22 =>
                  gd (xin (i3 i) (gN (sI p_15.2 20 a_20 (xi (i3 i)) 3) 21 a_22)) <|
                  L_X12_cutAll_17 fu l 0 (i3 i + 1) (i3 p + 1) (sL (sI p_15.2 20 a_20 (xi (i3 i)) 3) 21 a_22 (xi (i3 i)) (Int32.toInt64 (i3 (f p))))
              else
                L_X12_cutAll_159 fu (L_X12_cutAll_17 fu l) fu 0 (i3 i) (i3 p) (i3 p) (Int64.ofNat 0) p_13.2
            else
              L_X12_cutAll_70 fu (L_X12_cutAll_17 fu l) fu 0 (i3 i) (i3 p) (i3 p) (Int64.ofNat 0) p_12.2
          else L_X12_cutAll_17 fu l 0 (i3 i) (i3 (p + 1)) (mmb Y N) := by
        conv => lhs; unfold L_X12_cutAll_17
        rw [m_0, hT.2.1, if_neg (fun q => by have := (i3_le (by omega) (by omega)).mp q; omega), gR_mmb, l12_0_1 h]
        simp only [Option.bind_some, gN_mmb]
        rw [n20_87 h, xin_i3 (show p < 1000 by omega) (by omega), gd_t, xi_i3 (by omega), m_87, g1, gR_mmb, l12_0_5 h]
        simp only [Option.bind_some, gN_mmb]
        rw [n20_89 h, xin_i3 (show i < 1002 by omega) (by omega), gd_t, xi_i3 (by omega), p_89, i3_add1]
      rw [hnl]
      have hrs := rnE_s (P := isBl) (f := f) c
      by_cases c10 : f p = 10
      · rw [if_pos (show i3 (f p) = 10 by rw [c10]; rfl)]
        rw [show isBl (f p) = true by rw [c10]; rfl, if_pos rfl] at hrs
        exact ih (p + 1) i Y N (by omega) (by omega) (by omega) hLn hT hTk (hS.trans hrs) hX
      rw [if_neg (show ¬ i3 (f p) = 10 from fun q => c10 ((i3_eq (b := 10) (by omega) (by omega)).mp q))]
      by_cases c32 : f p = 32
      · rw [if_neg (fun q => q (show i3 (f p) = 32 by rw [c32]; rfl))]
        rw [show isBl (f p) = true by rw [c32]; rfl, if_pos rfl] at hrs
        exact ih (p + 1) i Y N (by omega) (by omega) (by omega) hLn hT hTk (hS.trans hrs) hX
      rw [if_pos (show ¬ i3 (f p) = 32 from fun q => c32 ((i3_eq (b := 32) (by omega) (by omega)).mp q))]
      have hbl : isBl (f p) = false := by unfold isBl; rw [decide_eq_false c10, decide_eq_false c32]; rfl
      rw [hbl, if_neg (by decide)] at hrs
      have hS' : tS f t i = p := hS.trans hrs
      have hT1 : TpT f t (up Y 89 i (i3 p)) := TpT_up hT (Or.inr rfl)
      have hgo : ∀ (e ty : Nat) (x : Int64), p < e → e ≤ t → tkE f t p = e → tkT f t p = ty → tkV f t p = x →
          ∃ Y' N' T, L_X12_cutAll_17 fu l 0 (i3 (i + 1)) (i3 e) (mmb (up (up Y 89 i (i3 p)) 88 i (i3 ty)) (sL N 21 2 i x)) = some (mmb Y' N') ∧ LnF N0 N' ∧ TkI f t T Y' N' ∧ tS f t T = t ∧ T ≤ t ∧ Y' 88 T = 0 ∧ Y' 89 T = i3 t ∧ Y' 0 7 = 0 ∧ Y' 0 8 = 0 ∧ ∀ j k, j ≠ 88 → j ≠ 89 → (j ≠ 0 ∨ k ≠ 7 ∧ k ≠ 8) → Y' j k = X j k := fun e ty x he1 he2 hE hTy hV => by
        refine ih e (i + 1) _ _ (by omega) he2 (by omega) (LnF_s hLn) (TpT_up hT1 (Or.inl rfl)) (TkI_s hTk hS' c (by rw [hTy]) hV.symm) ?_ (fun j k q1 q2 => ?_)
        · show rnE isBl f t (tkE f t (tS f t i)) = _
          rw [hS', hE]
        · rw [up_ne (by omega), up_ne (by omega)]; exact hX j k q1 q2
      rw [isL_t g2]
      simp only [Option.bind_some, bz_0]
      cases cl : isLt (f p) with
      | true =>
        have hE : tkE f t p = rnE isLt f t p := by unfold tkE; rw [if_pos c, if_pos cl]
        have hr2 := rnE_s (P := isLt) (f := f) c
        rw [cl, if_pos rfl] at hr2
        obtain ⟨b1, b2⟩ := rnE_b (P := isLt) (f := f) (show p + 1 ≤ t by omega)
        rw [if_neg (by decide)]
        have := t_cut70 (fu := fu) (kk := L_X12_cutAll_17 fu l) (s := p) h hT1 (show i < 1002 by omega) (t - p) 0 fu (by omega) (by omega)
        rw [show L_X12_cutAll_70 fu (L_X12_cutAll_17 fu l) fu 0 (i3 i) (i3 p) (i3 p) (Int64.ofNat 0) (mmb (up Y 89 i (i3 p)) N) = _ from this]
        show ∃ Y' N' T, L_X12_cutAll_17 fu l 0 (i3 (i + 1)) (i3 (rnE isLt f t p)) (mmb (up (up Y 89 i (i3 p)) 88 i (i3 (if 8 < rnE isLt f t p - p then 4 else 1))) (sL N 21 2 i (wvF f p (rnE isLt f t p - p)))) = some (mmb Y' N') ∧ _
        exact hgo _ _ _ (by omega) (by omega) hE (by unfold tkT; rw [if_pos c, if_pos cl]) (by unfold tkV; rw [if_pos cl])
      | false =>
        rw [if_pos rfl, isD_t g2]
        simp only [Option.bind_some, bz_0]
        cases cd : isDg (f p) with
        | true =>
          have hE : tkE f t p = rnE isDg f t p := by unfold tkE; rw [if_pos c, if_neg (by rw [cl]; decide), if_pos cd]
          have hr2 := rnE_s (P := isDg) (f := f) c
          rw [cd, if_pos rfl] at hr2
          obtain ⟨b1, b2⟩ := rnE_b (P := isDg) (f := f) (show p + 1 ≤ t by omega)
          rw [if_neg (by decide)]
          have := t_cut159 (fu := fu) (kk := L_X12_cutAll_17 fu l) (s := p) h hT1 (show i < 1002 by omega) (t - p) 0 fu (by omega) (by omega)
          rw [show L_X12_cutAll_159 fu (L_X12_cutAll_17 fu l) fu 0 (i3 i) (i3 p) (i3 p) (Int64.ofNat 0) (mmb (up Y 89 i (i3 p)) N) = _ from this]
          show ∃ Y' N' T, L_X12_cutAll_17 fu l 0 (i3 (i + 1)) (i3 (rnE isDg f t p)) (mmb (up (up Y 89 i (i3 p)) 88 i (i3 (if 4 < rnE isDg f t p - p then 4 else 2))) (sL N 21 2 i (nvF f p (rnE isDg f t p - p)))) = some (mmb Y' N') ∧ _
          exact hgo _ _ _ (by omega) (by omega) hE (by unfold tkT; rw [if_pos c, if_neg (by rw [cl]; decide), if_pos cd]) (by unfold tkV; rw [if_neg (by rw [cl]; decide), if_pos cd])
        | false =>
          have hE : tkE f t p = p + 1 := by unfold tkE; rw [if_pos c, if_neg (by rw [cl]; decide), if_neg (by rw [cd]; decide)]
          have hV : tkV f t p = Int32.toInt64 (i3 (f p)) := by unfold tkV; rw [if_neg (by rw [cl]; decide), if_neg (by rw [cd]; decide)]
          rw [if_pos rfl, isS_t g2]
          simp only [Option.bind_some, bz_0]
          rw [gR_mmb, l12_0_4 h]
          simp only [Option.bind_some, gN_mmb]
          rw [n20_88 h, xin_i3 (show i < 1002 by omega) (by omega), gd_t, gd_t, xi_i3 (by omega), p_88, p_88, gR_mmb, gR_mmb, l12_0_6 h]
          simp only [Option.bind_some, gN_mmb]
          rw [n21_2 h, xin_i3 (show i < 1002 by omega) (by omega), gd_t, gd_t, i3_add1, i3_add1]
          cases cs : isSg (f p) with
          | true =>
            rw [if_neg (by decide)]
            exact hgo (p + 1) 3 _ (by omega) (by omega) hE (by unfold tkT; rw [if_pos c, if_neg (by rw [cl]; decide), if_neg (by rw [cd]; decide), if_pos cs]) hV
          | false =>
            rw [if_pos rfl]
            exact hgo (p + 1) 4 _ (by omega) (by omega) hE (by unfold tkT; rw [if_pos c, if_neg (by rw [cl]; decide), if_neg (by rw [cd]; decide), if_neg (by rw [cs]; decide)]) hV
    · have hpt : p = t := by omega
      subst hpt
      rw [rnE_t] at hS
      refine ⟨up (up (up (up Y 88 i 0) 89 i (i3 p)) 0 7 0) 0 8 0, N, i, ?_, hLn, fun j hj => ?_, hS, hi, ?_, ?_, ?_, up_eq, fun j k q1 q2 q3 => ?_⟩
      · have e3 : up Y 88 i 0 0 3 = i3 p := (up_ne (by omega)).trans hT.2.1
        conv => lhs; unfold L_X12_cutAll_17
        rw [m_0, hT.2.1, if_pos (Int32.le_refl _), gR_mmb, l12_0_4 h]
        simp only [Option.bind_some, gN_mmb]
        rw [n20_88 h, xin_i3 (show i < 1002 by omega) (by omega), gd_t, xi_i3 (by omega), p_88, gR_mmb, l12_0_5 h]
        simp only [Option.bind_some, gN_mmb]
        rw [n20_89 h, xin_i3 (show i < 1002 by omega) (by omega), gd_t, m_0, e3, p_89, p_0, p_0]
      · obtain ⟨a1, a2, a3, a4⟩ := hTk j hj
        exact ⟨a1, by rw [up_ne (by omega), up_ne (by omega), up_ne (by omega), up_ne (by omega)]; exact a2, by rw [up_ne (by omega), up_ne (by omega), up_ne (by omega), up_ne (by omega)]; exact a3, a4⟩
      · rw [up_ne (by omega), up_ne (by omega), up_ne (by omega), up_eq]
      · rw [up_ne (by omega), up_ne (by omega), up_eq]
      · rw [up_ne (by omega), up_eq]
      · rw [up_ne (by omega), up_ne (by omega), up_ne (by omega), up_ne (by omega)]; exact hX j k q1 q2
end
