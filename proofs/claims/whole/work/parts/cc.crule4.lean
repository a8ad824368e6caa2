/-! ===== the rule's E, read: the class, parts ===== -/
def isFc (f : Nat → Nat) (t s : Nat) : Bool := match tkK f t s with
  | some k => decide (19 ≤ k)
  | none => false
section
variable {M M' M1 M2 : xM} {f : Nat → Nat} {fu l t T n i j k d s x a : Nat} {c : List Nat} {q : Nat × Nat × List Nat} {r : Nat → List Nat → Nat × Nat × List Nat} {v dd x3 : Int32} {F : Nat → Option Nat → Int32 → xM → Option (Int32 × xM)}
theorem e_isFact (h : AtC f t s M) : F_X10_isFact fu 0 M = some (bz (isFc f t s), M) := by
  unfold F_X10_isFact isFc
  rw [h.2.2.2.2.2.1]
  cases e : tkK f t s with
  | none =>
    rw [tkW_n e, if_pos (by decide), xb_f, gd_t]; rfl
  | some k =>
    have hk := (tkK_lt e).1
    rw [tkW_s e]
    by_cases c : 19 ≤ k
    · rw [if_neg (show ¬ i3 k < 19 from fun q => by have := (i3_lt (b := 19) (by omega) (by omega)).mp q; omega), if_neg (show ¬ 22 < i3 k from fun q => by have := (i3_lt (a := 22) (by omega) (by omega)).mp q; omega), xb_t, gd_t]
      show some (1, M) = some (bz (decide (19 ≤ k)), M)
      rw [decide_eq_true c]; rfl
    · rw [if_pos (show i3 k < 19 from (i3_lt (b := 19) (by omega) (by omega)).mpr (by omega)), xb_f, gd_t]
      show some (0, M) = some (bz (decide (19 ≤ k)), M)
      rw [decide_eq_false c]; rfl
theorem cls_n (v : Nat) : clsC (1 + 16 * v) = i3 v := by
  unfold clsC
  rw [if_pos (by omega)]
  congr 1; omega
theorem cls_f (h : 19 ≤ k) (hk : k < 23) : clsC (2 + 16 * (k - 19)) = 18 - i3 k := by
  rcases (show k = 19 ∨ k = 20 ∨ k = 21 ∨ k = 22 by omega) with rfl | rfl | rfl | rfl <;> decide
/-- a fault, told -/
theorem ClS_fail (h : ClS f t a (0, i, c) M) (hk : 0 < k) : ∃ M', F_X10_fail fu 0 (i3 k) M = some (0, M') ∧ ClS f t a (k + 16 * tS f t i, i, c) M' ∧ RdF a M M' := by
  obtain ⟨h1, h2, h3, h4⟩ := h
  refine ⟨_, e_fail (h3 rfl), ⟨TpC_s h1 (by omega), CdC_cg (fun k => by rw [gI_sI, if_neg (by omega)]) (by rw [gI_sI, if_neg (by omega)]) h2, fun q => ?_, fun _ => by rw [gI_sI, if_pos ⟨rfl, rfl, rfl⟩]⟩, RdF_9⟩
  have : k + 16 * tS f t i = 0 := q
  omega
theorem ClR_par (ha : a < 2) (hf : 1100 < fu) (hT0 : tS f t T = t) (hT : T ≤ 1000) (hd : d ≤ 5) (hB : d < 5 → pB T r) (hr : d < 5 → ClR f t T a F r (i3 (d + 1))) : ClR f t T a (F_X8_readParto fu F) (pPar f t r d) (i3 d) := by
  intro i c M hi hc h
  have hA := h.2.2.1 rfl
  have hA' : AtC f t (tS f t i) M := hA
  have hty : gI M 10 0 2 = i3 (tkT f t (tS f t i)) := hA'.2.2.2.2.1
  have hT5 : tkT f t (tS f t i) ≤ 4 := tkT_le
  have hq2 : gI M 10 0 2 = 2 ↔ tkT f t (tS f t i) = 2 := by rw [hty]; exact i3_eq (b := 2) (by omega) (by omega)
  have w16 : gI M 10 0 3 = 16 ↔ tkK f t (tS f t i) = some 16 := kw_c (k := 16) hA' (by omega)
  have es40 : F_X10_isSign fu 0 40 M = some (bz (sgB f t (tS f t i) 40), M) := e_isSign (fu := fu) (c := 40) hA' (by omega)
  have efc := e_isFact (fu := fu) hA'
  have hd5 : i3 d < 5 ↔ d < 5 := i3_lt (b := 5) (by omega) (by omega)
  have ed : i3 d + 1 = i3 (d + 1) := i3_add1 d
  -- at five levels: a fault
  have far : ∀ x3 y0, ¬ d < 5 → ∃ M', J_X8_readPart_61 fu F a (some 0) (i3 d) x3 y0 M = some (0, M') ∧ ClS f t a (5 + 16 * tS f t i, i, c) M' ∧ RdF a M M' := fun x3 y0 hn => by
    obtain ⟨M', r1, r2, r3⟩ := ClS_fail (fu := fu) (k := 5) h (by omega)
    refine ⟨M', ?_, r2, r3⟩
    unfold J_X8_readPart_61
    rw [if_neg (fun z => hn (hd5.mp z))]
    simp only [Option.bind_some]
    rw [show F_X10_fail fu 0 5 M = _ from r1]
    simp only [Option.bind_some]
    rw [xb_f, gd_t]
  have hz5 : ∀ m : Nat, bz (decide (5 + 16 * m = 0)) = 0 := fun m => by rw [decide_eq_false (by omega)]; rfl
  have hz1 : ∀ m : Nat, bz (decide (1 + 16 * m = 0)) = 0 := fun m => by rw [decide_eq_false (by omega)]; rfl
  unfold pPar
  cases ep : plC f t (tS f t i) with
  | some x =>
    have hlt := tok_lt hT0 hi (plC_ty ep)
    -- it is plain
    have hhead : ∃ y0, F_X8_readParto fu F a (some 0) (i3 d) M = J_X8_readPart_61 fu F a (some 0) (i3 d) 1 y0 M := by
      have h20 : ∃ y0, J_X8_readPart_20 fu F a (some 0) (i3 d) 1 M = J_X8_readPart_61 fu F a (some 0) (i3 d) 1 y0 M := by
        unfold J_X8_readPart_20 J_X8_readPart_35
        simp only [Option.bind_some]
        by_cases c16 : gI M 10 0 3 = 16
        · exact ⟨1, by rw [if_neg (fun z => z c16), if_pos (by decide)]⟩
        · exact ⟨0, by rw [if_pos c16, if_pos (by decide)]⟩
      obtain ⟨y0, h20⟩ := h20
      refine ⟨y0, ?_⟩
      rw [← h20]
      unfold F_X8_readParto
      simp only [Option.bind_some]
      by_cases c2 : tkT f t (tS f t i) = 2
      · rw [if_pos (hq2.mpr c2)]
      · rw [if_neg (fun z => c2 (hq2.mp z)), efc]
        simp only [Option.bind_some]
        have : isFc f t (tS f t i) = true := by
          unfold plC at ep
          rw [if_neg c2] at ep
          unfold isFc
          cases e : tkK f t (tS f t i) with
          | none => rw [e] at ep; cases ep
          | some k =>
            rw [e] at ep
            by_cases c19 : 19 ≤ k
            · exact decide_eq_true c19
            · simp only [if_neg c19] at ep; cases ep
        rw [this, if_neg (by decide)]
    obtain ⟨y0, hhead⟩ := hhead
    by_cases c5 : 5 ≤ d
    · simp only [if_pos c5]
      obtain ⟨M', r1, r2, r3⟩ := far 1 y0 (by omega)
      exact ⟨M', by rw [hhead, r1]; show _ = some (bz (decide (5 + 16 * tS f t i = 0)), M'); rw [hz5], r2, r3⟩
    · simp only [if_neg c5]
      obtain ⟨M1, r1, r2, r3⟩ := emit_e (fu := fu) (x := x) h ha (by show c.length < 1000; omega)
      obtain ⟨M2, s1, s2, s3⟩ := ClS_nx (i := i) (c := c ++ [x]) r2 hf
      refine ⟨M2, ?_, s2, RdF_tr r3 s3⟩
      rw [hhead]
      unfold J_X8_readPart_61
      rw [if_pos (hd5.mpr (by omega)), if_neg (by decide)]
      simp only [Option.bind_some]
      by_cases c2 : tkT f t (tS f t i) = 2
      · obtain ⟨n1, n2, n3, n4⟩ := tk_n c2
        have ex : x = 1 + 16 * nuN f (tS f t i) (tkE f t (tS f t i) - tS f t i) := by
          unfold plC at ep
          rw [if_pos c2] at ep
          injection ep with ep
          exact ep.symm
        have e4 : gI M 10 0 4 = clsC x := by rw [hA'.2.2.2.2.2.2.1 c2, n3, ex, cls_n]
        rw [if_neg (fun z => z (hq2.mpr c2)), e4, r1]
        simp only [Option.bind_some]
        rw [s1]
        simp only [Option.bind_some]
        rw [xb_t, gd_t]
        rfl
      · have : ∃ k, tkK f t (tS f t i) = some k ∧ 19 ≤ k ∧ x = 2 + 16 * (k - 19) := by
          unfold plC at ep
          rw [if_neg c2] at ep
          cases e : tkK f t (tS f t i) with
          | none => rw [e] at ep; cases ep
          | some k =>
            rw [e] at ep
            by_cases c19 : 19 ≤ k
            · simp only [if_pos c19] at ep
              injection ep with ep
              exact ⟨k, rfl, c19, ep.symm⟩
            · simp only [if_neg c19] at ep; cases ep
        obtain ⟨k, k1, k2, k3⟩ := this
        have e4 : 18 - gI M 10 0 3 = clsC x := by rw [hA'.2.2.2.2.2.1, tkW_s k1, k3, cls_f k2 (tkK_lt k1).1]
        rw [if_pos (fun z => c2 (hq2.mp z)), e4, r1]
        simp only [Option.bind_some]
        rw [s1]
        simp only [Option.bind_some]
        rw [xb_t, gd_t]
        rfl
  | none =>
    simp only
    have c2 : ¬ tkT f t (tS f t i) = 2 := fun z => by unfold plC at ep; rw [if_pos z] at ep; cases ep
    have hfc : isFc f t (tS f t i) = false := by
      unfold plC at ep
      rw [if_neg c2] at ep
      unfold isFc
      cases e : tkK f t (tS f t i) with
      | none => rfl
      | some k =>
        rw [e] at ep
        by_cases c19 : 19 ≤ k
        · simp only [if_pos c19] at ep; cases ep
        · exact decide_eq_false c19
    have h0 : F_X8_readParto fu F a (some 0) (i3 d) M = J_X8_readPart_20 fu F a (some 0) (i3 d) 0 M := by
      unfold F_X8_readParto
      simp only [Option.bind_some]
      rw [if_neg (fun z => c2 (hq2.mp z)), efc, hfc]
      simp only [Option.bind_some]
      rw [if_pos (show bz false = 0 from rfl)]
    by_cases c16 : tkK f t (tS f t i) = some 16
    · rw [if_pos c16]
      have hlt := kw_lt hT0 hi c16
      have h1 : F_X8_readParto fu F a (some 0) (i3 d) M = J_X8_readPart_61 fu F a (some 0) (i3 d) 0 1 M := by
        rw [h0]
        unfold J_X8_readPart_20 J_X8_readPart_35
        simp only [Option.bind_some]
        rw [if_neg (fun z => z (w16.mpr c16)), if_neg (fun z => z trivial), if_pos (by decide)]
      by_cases c5 : 5 ≤ d
      · rw [if_pos c5]
        obtain ⟨M', r1, r2, r3⟩ := far 0 1 (by omega)
        exact ⟨M', by rw [h1, r1]; show _ = some (bz (decide (5 + 16 * tS f t i = 0)), M'); rw [hz5], r2, r3⟩
      · rw [if_neg c5]
        obtain ⟨M1, M2, M3, u1, u2, u3, u4, u5⟩ := itr_e (x := 3) ha hf (hr (by omega)) (hB (by omega)) hT h rfl hlt hc
        refine ⟨M3, ?_, u4, u5⟩
        rw [h1]
        unfold J_X8_readPart_61
        rw [if_pos (hd5.mpr (by omega)), if_pos rfl]
        simp only [Option.bind_some]
        rw [u1]
        simp only [Option.bind_some]
        rw [if_neg (by decide), ed, u2]
        simp only [Option.bind_some]
        rw [show F_X8_emit fu a (-5) M2 = _ from u3]
        simp only [Option.bind_some]
        rw [gd_bz]
        rfl
    · rw [if_neg c16]
      by_cases c40 : sgB f t (tS f t i) 40 = true
      · rw [if_pos c40]
        have hlt := sg_lt hT0 hi c40
        have h1 : F_X8_readParto fu F a (some 0) (i3 d) M = J_X8_readPart_61 fu F a (some 0) (i3 d) 0 0 M := by
          rw [h0]
          unfold J_X8_readPart_20 J_X8_readPart_35
          simp only [Option.bind_some]
          rw [if_pos (fun z => c16 (w16.mp z)), if_neg (fun z => z trivial), if_neg (fun z => z trivial), es40, c40]
          simp only [Option.bind_some]
          rw [if_pos (by decide)]
        by_cases c5 : 5 ≤ d
        · rw [if_pos c5]
          obtain ⟨M', r1, r2, r3⟩ := far 0 0 (by omega)
          exact ⟨M', by rw [h1, r1]; show _ = some (bz (decide (5 + 16 * tS f t i = 0)), M'); rw [hz5], r2, r3⟩
        · rw [if_neg c5]
          obtain ⟨M1, r1, r2, r3⟩ := ClS_nx h hf
          obtain ⟨M2, s1, s2, s3⟩ := ClR_all ha hf hT0 (hr (by omega)) (hB (by omega)) hT (i + 1) c M1 (by omega) (by omega) r2
          obtain ⟨z1, z2, z3⟩ := pB_all hT0 (hB (by omega)) (i + 1) c 0 (by omega) (by omega)
          generalize pAll f t r (i + 1) c = q at s1 s2 z1 z2 z3 ⊢
          have hto : ∀ {ρ : Option (Int32 × xM)}, ((if q.1 = 0 then (F_X10_isSign fu 0 41 M2).bind fun p_5 => if ¬ p_5.1 = 0 then (F_X10_next fu 0 p_5.2).bind fun p_7 => gd (xbool 1) (some (1, p_7)) else (F_X10_fail fu 0 1 p_5.2).bind fun p_9 => gd (xbool p_9.1) (some (p_9.1, p_9.2)) else some (0, M2)) = ρ) → F_X8_readParto fu F a (some 0) (i3 d) M = ρ := fun {ρ} hρ => by
            rw [h1, ← hρ]
            unfold J_X8_readPart_61
            rw [if_pos (hd5.mpr (by omega)), if_pos rfl]
            simp only [Option.bind_some]
            rw [r1]
            simp only [Option.bind_some]
            rw [if_pos trivial, ed, s1]
            simp only [Option.bind_some]
            by_cases q0 : q.1 = 0
            · rw [dec_t q0, if_pos (by decide), if_pos q0]
            · rw [dec_f q0, if_neg (by decide), if_neg q0, xb_f, gd_t]
          by_cases q0 : q.1 = 0
          · rw [if_pos q0]
            have hA2 := s2.2.2.1 q0
            have es41 : F_X10_isSign fu 0 41 M2 = some (bz (sgB f t (tS f t q.2.1) 41), M2) := e_isSign (fu := fu) (c := 41) hA2 (by omega)
            have s2' : ClS f t a (0, q.2.1, q.2.2) M2 := by
              have e : q = (0, q.2.1, q.2.2) := by rw [← q0]
              rw [← e]; exact s2
            by_cases c41 : sgB f t (tS f t q.2.1) 41 = true
            · rw [if_pos c41]
              obtain ⟨M3, u1, u2, u3⟩ := ClS_nx s2' hf
              refine ⟨M3, hto ?_, u2, RdF_tr r3 (RdF_tr s3 u3)⟩
              rw [if_pos q0, es41, c41]
              simp only [Option.bind_some]
              rw [if_pos (by decide), u1]
              simp only [Option.bind_some]
              rw [xb_t, gd_t]
              rfl
            · rw [if_neg c41]
              obtain ⟨M3, u1, u2, u3⟩ := ClS_fail (fu := fu) (k := 1) s2' (by omega)
              refine ⟨M3, hto ?_, u2, RdF_tr r3 (RdF_tr s3 u3)⟩
              have cf : sgB f t (tS f t q.2.1) 41 = false := by
                cases z : sgB f t (tS f t q.2.1) 41 with
                | true => exact absurd z c41
                | false => rfl
              rw [if_pos q0, es41, cf]
              simp only [Option.bind_some]
              rw [if_neg (fun z => z rfl), show F_X10_fail fu 0 1 M2 = _ from u1]
              simp only [Option.bind_some]
              rw [xb_f, gd_t]
              show _ = some (bz (decide (1 + 16 * tS f t q.2.1 = 0)), M3)
              rw [hz1]
          · rw [if_neg q0]
            refine ⟨M2, hto ?_, s2, RdF_tr r3 s3⟩
            rw [if_neg q0, dec_f q0]
      · rw [if_neg c40]
        have cf : sgB f t (tS f t i) 40 = false := by
          cases z : sgB f t (tS f t i) 40 with
          | true => exact absurd z c40
          | false => rfl
        obtain ⟨M3, u1, u2, u3⟩ := ClS_fail (fu := fu) (k := 1) h (by omega)
        refine ⟨M3, ?_, u2, u3⟩
        rw [h0]
        unfold J_X8_readPart_20 J_X8_readPart_35
        simp only [Option.bind_some]
        rw [if_pos (fun z => c16 (w16.mp z)), if_neg (fun z => z trivial), if_neg (fun z => z trivial), es40, cf]
        simp only [Option.bind_some]
        rw [if_neg (fun z => z rfl), show F_X10_fail fu 0 1 M = _ from u1]
        simp only [Option.bind_some]
        rw [xb_f, gd_t]
        show _ = some (bz (decide (1 + 16 * tS f t i = 0)), M3)
        rw [hz1]
theorem ClR_part (ha : a < 2) (hf : 1100 < fu) (hT0 : tS f t T = t) (hT : T ≤ 1000) : ∀ n d, d ≤ 5 → 6 ≤ n + d → ClR f t T a (F_X8_readPart fu n) (pPart f t n d) (i3 d)
  | 0, d, h1, h2 => by omega
  | n + 1, d, h1, h2 => by
    have := ClR_par (F := F_X8_readPart fu n) (r := pPart f t n (d + 1)) (d := d) ha hf hT0 hT h1 (fun _ => pB_part hT0 n (d + 1)) (fun hd => ClR_part ha hf hT0 hT n (d + 1) (by omega) (by omega))
    exact this
end
