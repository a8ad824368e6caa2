/-! ===== the rule's E, read: the reference, parts ===== -/
section
variable {M M' M1 M2 N : xM} {X Y Y' Y1 Z : xT} {f : Nat → Nat} {fu l t T n i j k d s x a b w : Nat} {c : List Nat} {q : Nat × Nat × List Nat} {r : Nat → List Nat → Nat × Nat × List Nat} {jn : Nat → Option Nat} {u v dd x2 x3 : Int32} {F : Nat → Int32 → xM → Option xM}
theorem m8_le (h : MdS f t T q Y N) : (gI (mmb Y N) 12 0 8 ≤ 0) = (q.1 = 0) := by
  rw [m_0, h.1.2.2.2.2.2.2.2.2.2.2.2]
  have h2 := h.2.1
  exact propext ⟨fun z => by have := (i3_le (b := 0) (by omega) (by omega)).mp z; omega, fun z => by rw [z]; exact Int32.le_refl _⟩
/-- a sign taken, or a fault told -/
theorem t_take (h : MdS f t T q Y N) (h0 : q.1 = 0) (hw : w ≤ 126) (hi : q.2.1 ≤ T) (hT0 : tS f t T = t) (ht : t ≤ 1000) : ∃ Y', F_X12_takeSign fu 0 (i3 w) (mmb Y N) = some (mmb Y' N) ∧ MdS f t T (if sgB f t (tS f t q.2.1) w = true then (0, q.2.1 + 1, q.2.2) else (1 + 16 * tS f t q.2.1, q.2.1, q.2.2)) Y' N ∧ XdF Y Y' := by
  have h' : MdS f t T (0, q.2.1, q.2.2) Y N := by
    have e : q = (0, q.2.1, q.2.2) := by rw [← h0]
    rw [← e]; exact h
  have es := isS_m (fu := fu) h h0 hw
  by_cases e : sgB f t (tS f t q.2.1) w = true
  · rw [if_pos e]
    obtain ⟨r1, r2⟩ := MdS_nx h' (sg_lt hT0 hi e)
    refine ⟨_, ?_, r1, r2⟩
    unfold F_X12_takeSign
    rw [es, e]
    simp only [Option.bind_some]
    rw [if_neg (show ¬ bz true = 0 from by decide), ps_7 h]
  · rw [if_neg e]
    obtain ⟨Y', r1, r2, r3⟩ := MdS_fail (fu := fu) (k := 1) h' (by omega) (by omega) ht
    refine ⟨Y', ?_, r2, r3⟩
    have ef : sgB f t (tS f t q.2.1) w = false := by
      cases z : sgB f t (tS f t q.2.1) w with
      | true => exact absurd z e
      | false => rfl
    unfold F_X12_takeSign
    rw [es, ef]
    simp only [Option.bind_some]
    rw [if_pos (show bz false = 0 from rfl), show F_X12_wrong fu 0 1 (mmb Y N) = _ from r1]
    rfl
theorem t_takeF (h : MdS f t T q Y N) (h0 : q.1 ≠ 0) : F_X12_takeSign fu 0 u (mmb Y N) = some (mmb Y N) := by
  unfold F_X12_takeSign
  rw [t_isSignF h.1 (MdS_v h h0)]
  simp only [Option.bind_some]
  rw [if_pos trivial, t_wrongF h.1 (MdS_v h h0)]
  rfl
theorem MdR_par (hf : 1100 < fu) (hT0 : tS f t T = t) (hT : T ≤ 1000) (ht : t ≤ 1000) (hd : d ≤ 5) (hB : d < 5 → pB T r) (hr : d < 5 → MdR f t T N F r (i3 (d + 1))) : MdR f t T N (F_X12_takeParto fu F) (pPar f t r d) (i3 d) := by
  intro i c Y hi hc h
  have hL := h.1.1
  have h7 : Y 0 7 = i3 i := h.1.2.2.2.2.2.2.2.2.2.1
  obtain ⟨e88', e89⟩ := AtX_88 h.1
  have e88 : Y 88 i = i3 (tkT f t (tS f t i)) := e88'
  have hT5 : tkT f t (tS f t i) ≤ 4 := tkT_le
  have hle : tS f t i ≤ t := tS_le i
  have ew : F_X12_wordHere fu 0 19 4 (mmb Y N) = some (wHr (tkK f t (tS f t i)) 19 4, mmb Y N) := t_wordHere (a := 19) (n := 4) h.1 rfl (by omega) hf
  have es40 : F_X12_isSign fu 0 40 (mmb Y N) = some (bz (sgB f t (tS f t i) 40), mmb Y N) := isS_m (w := 40) h rfl (by omega)
  have ew16 : F_X12_isWord fu 0 16 (mmb Y N) = some (bz (decide (tkK f t (tS f t i) = some 16)), mmb Y N) := isW_m (w := 16) h rfl (by omega)
  have eh16 : F_X12_hasWord fu 0 16 (mmb Y N) = some (bz (decide (tkK f t (tS f t i) = some 16)), mmb (if tkK f t (tS f t i) = some 16 then up Y 0 7 (i3 (i + 1)) else Y) N) := t_hasWord (w := 16) h rfl (by omega)
  have eh40 : F_X12_hasSign fu 0 40 (mmb Y N) = some (bz (sgB f t (tS f t i) 40), mmb (if sgB f t (tS f t i) 40 = true then up Y 0 7 (i3 (i + 1)) else Y) N) := t_hasSign (w := 40) h rfl (by omega)
  have m8 : gI (mmb Y N) 12 0 8 ≤ 0 := by rw [m8_le h]
  have hd5 : i3 d = 5 ↔ d = 5 := i3_eq (b := 5) (by omega) (by omega)
  -- the start
  have hhead : ∀ n2, (tkT f t (tS f t i) = 2 ↔ n2 = 1) → (n2 = 0 ∨ n2 = 1) → F_X12_takeParto fu F 0 (i3 d) (mmb Y N) = J_X12_takePart_26 fu F 0 (i3 d) (i3 n2) (mmb Y N) := fun n2 hn hn2 => by
    unfold F_X12_takeParto
    rw [if_pos m8, gR_mmb, l12_0_4 hL]
    simp only [Option.bind_some, gN_mmb]
    rw [n20_88 hL, m_0, h7, xin_i3 (show i < 1002 by omega) (by omega), gd_t, xi_i3 (by omega), m_88, e88]
    by_cases c2 : tkT f t (tS f t i) = 2
    · rw [if_neg (fun z => z (show i3 (tkT f t (tS f t i)) = 2 by rw [c2]; rfl)), hn.mp c2]; rfl
    · rw [if_pos (show ¬ i3 (tkT f t (tS f t i)) = 2 from fun z => c2 ((i3_eq (b := 2) (by omega) (by omega)).mp z)), (hn2.resolve_right (fun z => c2 (hn.mpr z)))]; rfl
  -- five levels
  have far : ∀ x2 x3, d = 5 → ∃ Y', J_X12_takePart_69 fu F 0 (i3 d) x2 x3 (mmb Y N) = some (mmb Y' N) ∧ MdS f t T (5 + 16 * tS f t i, i, c) Y' N ∧ XdF Y Y' := fun x2 x3 hd' => by
    obtain ⟨Y', r1, r2, r3⟩ := MdS_fail (fu := fu) (k := 5) h (by omega) (by omega) ht
    refine ⟨Y', ?_, r2, r3⟩
    unfold J_X12_takePart_69
    rw [if_neg (fun z => z (hd5.mpr hd')), show F_X12_wrong fu 0 5 (mmb Y N) = _ from r1]
    simp only [Option.bind_some]
    unfold J_X12_takePart_79
    rw [if_neg (by rw [m8_le r2]; show ¬ (5 + 16 * tS f t i = 0); omega)]
  have near : ∀ x2 x3, d < 5 → J_X12_takePart_69 fu F 0 (i3 d) x2 x3 (mmb Y N) = J_X12_takePart_79 fu F 0 (i3 d) x2 x3 (mmb Y N) := fun x2 x3 hd' => by
    unfold J_X12_takePart_69
    rw [if_pos (fun z => by have := hd5.mp z; omega)]
  unfold pPar
  cases ep : plC f t (tS f t i) with
  | some x =>
    have hlt := tok_lt hT0 hi (plC_ty ep)
    have n16 : ¬ tkK f t (tS f t i) = some 16 := fun z => by
      unfold plC at ep
      rw [if_neg (by rw [(tkK_lt z).2.1]; decide), z] at ep
      cases ep
    have n40 : sgB f t (tS f t i) 40 = false := by
      cases z : sgB f t (tS f t i) 40 with
      | false => rfl
      | true =>
        have z3 := sg_ty z
        unfold plC at ep
        rw [if_neg (by rw [z3]; decide)] at ep
        have : tkK f t (tS f t i) = none := by unfold tkK; rw [if_neg (by rw [z3]; decide)]
        rw [this] at ep
        cases ep
    -- what is emitted
    have hem : ∃ n2 w b, F_X12_takeParto fu F 0 (i3 d) (mmb Y N) = J_X12_takePart_69 fu F 0 (i3 d) (i3 n2) (wHr (tkK f t (tS f t i)) 19 4) (mmb Y N) ∧ w + 16 * b = x ∧ (n2 = 0 ∧ w = 2 ∧ wHr (tkK f t (tS f t i)) 19 4 = i3 b ∨ n2 = 1 ∧ w = 1 ∧ gL N 21 2 i = Int64.ofNat b) := by
      by_cases c2 : tkT f t (tS f t i) = 2
      · obtain ⟨k1, k2, k3, k4⟩ := tk_n c2
        have hk : tkK f t (tS f t i) = none := by unfold tkK; rw [if_neg (by rw [c2]; decide)]
        have ex : 1 + 16 * nuN f (tS f t i) (tkE f t (tS f t i) - tS f t i) = x := by
          unfold plC at ep
          rw [if_pos c2] at ep
          injection ep with ep
        refine ⟨1, 1, nuN f (tS f t i) (tkE f t (tS f t i) - tS f t i), ?_, ex, Or.inr ⟨rfl, rfl, ?_⟩⟩
        · rw [hhead 1 ⟨fun _ => rfl, fun _ => c2⟩ (Or.inr rfl)]
          unfold J_X12_takePart_26
          rw [ew, hk]
          simp only [Option.bind_some]
          rw [if_neg (show ¬ (0 : Int32) ≤ wHr none 19 4 from by decide), if_pos (show ¬ i3 1 = 0 from by decide)]
        · exact ((AtX_L h.1 (by show tkT f t (tS f t i) ≠ 0; rw [c2]; decide)).2).trans k2
      · have : ∃ k, tkK f t (tS f t i) = some k ∧ 19 ≤ k ∧ x = 2 + 16 * (k - 19) := by
          unfold plC at ep
          rw [if_neg c2] at ep
          cases e : tkK f t (tS f t i) with
          | none => rw [e] at ep; cases ep
          | some k =>
            rw [e] at ep
            by_cases c19 : 19 ≤ k
            · simp only [if_pos c19] at ep
              injection ep with ep
              exact ⟨k, rfl, c19, ep.symm⟩
            · simp only [if_neg c19] at ep; cases ep
        obtain ⟨k, k1, k2, k3⟩ := this
        have hk := (tkK_lt k1).1
        have ewh : wHr (tkK f t (tS f t i)) 19 4 = i3 (k - 19) := by
          rw [k1]
          show (if 19 ≤ k ∧ k < 19 + 4 then i3 (k - 19) else -1) = _
          rw [if_pos ⟨k2, by omega⟩]
        refine ⟨0, 2, k - 19, ?_, by omega, Or.inl ⟨rfl, rfl, ewh⟩⟩
        rw [hhead 0 ⟨fun z => absurd z c2, fun z => by cases z⟩ (Or.inl rfl)]
        unfold J_X12_takePart_26
        rw [ew]
        simp only [Option.bind_some]
        rw [ewh, if_pos (ge0 (by omega))]
    obtain ⟨n2, w, b, g1, g2, g3⟩ := hem
    by_cases c5 : 5 ≤ d
    · simp only [if_pos c5]
      obtain ⟨Y', r1, r2, r3⟩ := far (i3 n2) (wHr (tkK f t (tS f t i)) 19 4) (by omega)
      exact ⟨Y', by rw [g1, r1], r2, r3⟩
    · simp only [if_neg c5]
      obtain ⟨Y1, r1, r2, r3⟩ := emit_m (fu := fu) (w := w) (b := b) h (by show c.length < 1000; omega) g2
      obtain ⟨s1, s2⟩ := MdS_nx (i := i) (c := c ++ [x]) r2 hlt
      refine ⟨up Y1 0 7 (i3 (i + 1)), ?_, s1, XdF_tr r3 s2⟩
      rw [g1, near _ _ (by omega)]
      unfold J_X12_takePart_79
      rw [if_pos m8, eh16, decide_eq_false n16, if_neg n16]
      simp only [Option.bind_some]
      rw [if_pos (show bz false = 0 from rfl), eh40, n40, if_neg (show ¬ (false = true) from by decide)]
      simp only [Option.bind_some]
      rw [if_pos (show bz false = 0 from rfl)]
      rcases g3 with ⟨z1, z2, z3⟩ | ⟨z1, z2, z3⟩
      · subst z1; subst z2
        rw [if_pos (show i3 0 = 0 from rfl)]
        unfold J_X12_takePart_147
        rw [if_pos (show i3 0 = 0 from rfl), z3, show F_X12_emit fu 0 2 (i3 b) (mmb Y N) = _ from r1]
        simp only [Option.bind_some]
        rw [ps_7 r2]
        rfl
      · subst z1; subst z2
        rw [if_neg (show ¬ i3 1 = 0 from by decide)]
        unfold J_X12_takePart_147
        rw [if_neg (show ¬ i3 1 = 0 from by decide), gR_mmb, l12_0_6 hL]
        simp only [Option.bind_some, gN_mmb]
        rw [n21_2 hL, m_0, h7, xin_i3 (show i < 1002 by omega) (by omega), gd_t, xi_i3 (by omega), gL_mmb, z3, to32, show F_X12_emit fu 0 1 (Int32.ofNat b) (mmb Y N) = _ from r1]
        simp only [Option.bind_some]
        rw [ps_7 r2]
        rfl
  | none =>
    simp only
    have c2 : ¬ tkT f t (tS f t i) = 2 := fun z => by unfold plC at ep; rw [if_pos z] at ep; cases ep
    have ewh : ¬ (0 : Int32) ≤ wHr (tkK f t (tS f t i)) 19 4 := by
      unfold plC at ep
      rw [if_neg c2] at ep
      cases e : tkK f t (tS f t i) with
      | none => show ¬ (0 : Int32) ≤ -1; decide
      | some k =>
        rw [e] at ep
        have h19 : ¬ 19 ≤ k := fun c19 => by simp only [if_pos c19] at ep; cases ep
        show ¬ (0 : Int32) ≤ (if 19 ≤ k ∧ k < 19 + 4 then i3 (k - 19) else -1)
        rw [if_neg (fun z => h19 z.1)]
        decide
    have h0 := hhead 0 ⟨fun z => absurd z c2, fun z => by cases z⟩ (Or.inl rfl)
    have n40of : tkK f t (tS f t i) = some 16 → sgB f t (tS f t i) 40 = false := fun z => by
      cases z2 : sgB f t (tS f t i) 40 with
      | false => rfl
      | true => have := sg_ty z2; rw [(tkK_lt z).2.1] at this; cases this
    by_cases c16 : tkK f t (tS f t i) = some 16
    · rw [if_pos c16]
      have hlt := kw_lt hT0 hi c16
      have h1 : ∃ x3, F_X12_takeParto fu F 0 (i3 d) (mmb Y N) = J_X12_takePart_69 fu F 0 (i3 d) (i3 0) x3 (mmb Y N) := by
        refine ⟨wHr (tkK f t (tS f t i)) 19 4, ?_⟩
        rw [h0]
        unfold J_X12_takePart_26
        rw [ew]
        simp only [Option.bind_some]
        rw [if_neg ewh, if_neg (fun z => z rfl), es40, n40of c16]
        simp only [Option.bind_some]
        rw [if_neg (show ¬ ¬ bz false = 0 from fun z => z rfl), ew16, decide_eq_true c16]
        simp only [Option.bind_some]
        rw [if_pos (show ¬ bz true = 0 from by decide)]
      obtain ⟨x3, h1⟩ := h1
      by_cases c5 : 5 ≤ d
      · rw [if_pos c5]
        obtain ⟨Y', r1, r2, r3⟩ := far (i3 0) x3 (by omega)
        exact ⟨Y', by rw [h1, r1], r2, r3⟩
      · rw [if_neg c5]
        obtain ⟨Y2, Y3, u1, u2, u3, u4⟩ := itr_m (fu := fu) (w := 3) (x := 3) (hr (by omega)) (hB (by omega)) hT h rfl hlt hc (by omega)
        refine ⟨Y3, ?_, u3, u4⟩
        rw [h1, near _ _ (by omega)]
        unfold J_X12_takePart_79
        rw [if_pos m8, eh16, decide_eq_true c16, if_pos c16]
        simp only [Option.bind_some]
        rw [if_neg (show ¬ bz true = 0 from by decide), i3_add1, u1]
        simp only [Option.bind_some]
        rw [show F_X12_emit fu 0 3 0 (mmb Y2 N) = _ from u2]
        rfl
    · rw [if_neg c16]
      by_cases c40 : sgB f t (tS f t i) 40 = true
      · rw [if_pos c40]
        have hlt := sg_lt hT0 hi c40
        have h1 : F_X12_takeParto fu F 0 (i3 d) (mmb Y N) = J_X12_takePart_69 fu F 0 (i3 d) (i3 0) (wHr (tkK f t (tS f t i)) 19 4) (mmb Y N) := by
          rw [h0]
          unfold J_X12_takePart_26
          rw [ew]
          simp only [Option.bind_some]
          rw [if_neg ewh, if_neg (fun z => z rfl), es40, c40]
          simp only [Option.bind_some]
          rw [if_pos (show ¬ bz true = 0 from by decide)]
        by_cases c5 : 5 ≤ d
        · rw [if_pos c5]
          obtain ⟨Y', r1, r2, r3⟩ := far (i3 0) (wHr (tkK f t (tS f t i)) 19 4) (by omega)
          exact ⟨Y', by rw [h1, r1], r2, r3⟩
        · rw [if_neg c5]
          obtain ⟨r1, r2⟩ := MdS_nx h hlt
          obtain ⟨Y2, s1, s2, s3⟩ := MdR_all hf hT0 (hr (by omega)) (hB (by omega)) hT (i + 1) c _ (by omega) (by omega) r1
          obtain ⟨z1, z2, z3⟩ := pB_all hT0 (hB (by omega)) (i + 1) c 0 (by omega) (by omega)
          generalize pAll f t r (i + 1) c = q at s1 s2 z1 z2 z3 ⊢
          have hto : ∀ Y3, F_X12_takeSign fu 0 41 (mmb Y2 N) = some (mmb Y3 N) → F_X12_takeParto fu F 0 (i3 d) (mmb Y N) = some (mmb Y3 N) := fun Y3 h3 => by
            rw [h1, near _ _ (by omega)]
            unfold J_X12_takePart_79
            rw [if_pos m8, eh16, decide_eq_false c16, if_neg c16]
            simp only [Option.bind_some]
            rw [if_pos (show bz false = 0 from rfl), eh40, c40, if_pos rfl]
            simp only [Option.bind_some]
            rw [if_neg (show ¬ bz true = 0 from by decide), i3_add1, s1]
            simp only [Option.bind_some]
            rw [h3]
            rfl
          by_cases q0 : q.1 = 0
          · rw [if_pos q0]
            obtain ⟨Y3, u1, u2, u3⟩ := t_take (fu := fu) (w := 41) s2 q0 (by omega) z2 hT0 ht
            exact ⟨Y3, hto Y3 u1, u2, XdF_tr r2 (XdF_tr s3 u3)⟩
          · rw [if_neg q0]
            exact ⟨Y2, hto Y2 (t_takeF s2 q0), s2, XdF_tr r2 s3⟩
      · rw [if_neg c40]
        have cf : sgB f t (tS f t i) 40 = false := by
          cases z : sgB f t (tS f t i) 40 with
          | true => exact absurd z c40
          | false => rfl
        obtain ⟨Y', r1, r2, r3⟩ := MdS_fail (fu := fu) (k := 1) h (by omega) (by omega) ht
        refine ⟨Y', ?_, r2, r3⟩
        rw [h0]
        unfold J_X12_takePart_26
        rw [ew]
        simp only [Option.bind_some]
        rw [if_neg ewh, if_neg (fun z => z rfl), es40, cf]
        simp only [Option.bind_some]
        rw [if_neg (show ¬ ¬ bz false = 0 from fun z => z rfl), ew16, decide_eq_false c16]
        simp only [Option.bind_some]
        rw [if_neg (show ¬ ¬ bz false = 0 from fun z => z rfl), show F_X12_wrong fu 0 1 (mmb Y N) = _ from r1]
        simp only [Option.bind_some]
        unfold J_X12_takePart_79
        rw [if_neg (by rw [m8_le r2]; show ¬ (1 + 16 * tS f t i = 0); omega)]
theorem MdR_part (hf : 1100 < fu) (hT0 : tS f t T = t) (hT : T ≤ 1000) (ht : t ≤ 1000) : ∀ n d, d ≤ 5 → 6 ≤ n + d → MdR f t T N (F_X12_takePart fu n) (pPart f t n d) (i3 d)
  | 0, d, h1, h2 => by omega
  | n + 1, d, h1, h2 => by
    have := MdR_par (F := F_X12_takePart fu n) (r := pPart f t n (d + 1)) (d := d) (N := N) hf hT0 hT ht h1 (fun _ => pB_part hT0 n (d + 1)) (fun hd => MdR_part hf hT0 hT ht n (d + 1) (by omega) (by omega))
    exact this
end
