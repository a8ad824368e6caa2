/-! ===== a PLAN, read: the class ===== -/
def plS0 : plS := (fun _ _ => 0, fun _ => [], 0, [])
section
variable {M M' M1 M5 N : xM} {X Y Y' Y1 : xT} {f : Nat → Nat} {fu l t T n i j k d s x a b w F e m g lo hi p : Nat} {c ls : List Nat} {q : Nat × Nat} {u v y0 : Int32} {nm : Nat → List Nat} {S S' : plS} {y : Int64} {C : xC}
theorem tkNu_i : i ≤ (tkNu f t i k d).2.1 := by
  unfold tkNu
  by_cases c : tkT f t (tS f t i) = 2
  · rw [if_pos c]
    by_cases c2 : k ≤ nuN f (tS f t i) (tkE f t (tS f t i) - tS f t i) ∧ nuN f (tS f t i) (tkE f t (tS f t i) - tS f t i) ≤ d
    · rw [if_pos c2]; exact Nat.le_succ i
    · rw [if_neg c2]; exact Nat.le_refl i
  · rw [if_neg c]; exact Nat.le_refl i
theorem tkSg_i : i ≤ (tkSg f t i w).2 := by
  unfold tkSg
  by_cases c : sgB f t (tS f t i) w = true
  · rw [if_pos c]; exact Nat.le_succ i
  · rw [if_neg c]; exact Nat.le_refl i
theorem plFile_gt (h0 : (plFile f t S i).1 = 0) : i < (plFile f t S i).2.1 := by
  unfold plFile at h0 ⊢
  by_cases c5 : S.1 0 3 < 5
  · rw [if_pos c5] at h0 ⊢
    by_cases cn : isNm f t (tS f t (i + 1)) = true
    · rw [if_pos cn] at h0 ⊢
      cases eo : ixO S.2.1 (S.1 0 3) (tkL f t (tS f t (i + 1))) with
      | some k0 =>
        rw [eo] at h0
        have h0' : 3 + 16 * tS f t (i + 1) = 0 := h0
        omega
      | none =>
        rw [eo] at h0
        have h0' : (plKind f t S (tkL f t (tS f t (i + 1))) (i + 2)).1 = 0 := h0
        show i < (plKind f t S (tkL f t (tS f t (i + 1))) (i + 2)).2.1
        unfold plKind at h0' ⊢
        cases ek : kdO f t (tS f t (i + 2)) with
        | none =>
          rw [ek] at h0'
          have h1 : 1 + 16 * tS f t (i + 2) = 0 := h0'
          omega
        | some k =>
          rw [ek] at h0'
          simp only at h0' ⊢
          by_cases c4 : tkK f t (tS f t (i + 2 + 1)) = some 4
          · rw [if_pos c4]
            have := tkNu_i (f := f) (t := t) (i := i + 2 + 2) (k := 1) (d := 4)
            show i < (tkNu f t (i + 2 + 2) 1 4).2.1
            omega
          · rw [if_neg c4] at h0'
            have h1 : 1 + 16 * tS f t (i + 2 + 1) = 0 := h0'
            omega
    · rw [if_neg cn] at h0
      have h0' : 1 + 16 * tS f t (i + 1) = 0 := h0
      omega
  · rw [if_neg c5] at h0
    have h0' : 5 + 16 * tS f t i = 0 := h0
    omega
theorem plLn_gt (hT0 : tS f t T = t) (hi : i < T) (h0 : (plLn f t S i).1 = 0) : i < (plLn f t S i).2.1 := by
  have ne1 : ¬ (1 + 16 * tS f t i = 0) := by omega
  have ne3 : ¬ (3 + 16 * tS f t i = 0) := by omega
  unfold plLn at h0 ⊢
  cases e : tkK f t (tS f t i) with
  | none =>
    rw [e] at h0
    exact absurd h0 ne1
  | some k =>
    rw [e] at h0
    simp only at h0 ⊢
    by_cases c3 : k = 3
    · rw [if_pos c3] at h0 ⊢
      exact plFile_gt h0
    · rw [if_neg c3] at h0 ⊢
      by_cases k3 : k < 3
      · rw [if_pos k3] at h0 ⊢
        by_cases c0 : S.2.2.1 / 2 ^ k % 2 = 0
        · rw [if_pos c0]
          have := tkNu_i (f := f) (t := t) (i := i + 1) (k := if k = 2 then 0 else 1) (d := if k = 2 then 8 else 6)
          exact this
        · rw [if_neg c0] at h0; exact absurd h0 ne3
      · rw [if_neg k3] at h0 ⊢
        by_cases k5 : k = 5
        · rw [if_pos k5] at h0 ⊢
          by_cases c0 : S.2.2.1 / 8 % 2 = 0
          · rw [if_pos c0]
            exact (pB_all hT0 (pB_part (f := f) hT0 16 0) (i + 1) [] 0 (by omega) (Nat.zero_le _)).1
          · rw [if_neg c0] at h0; exact absurd h0 ne3
        · rw [if_neg k5] at h0; exact absurd h0 ne1
theorem e_ploop (ha : a < 2) (hf : 1100 < fu) (hT0 : tS f t T = t) (hT : T ≤ 1000) : ∀ m n l i S M, T < i + m → i ≤ T → n ≤ i → m < l → LnC f t (0, i) M → PlC a S M → PlOk S →
    ∃ M', L_X7_read_12 fu l a (some 0) 1 (i3 n) M = some (bz (decide ((plP f t m S i).1 = 0)), M') ∧ LnC f t ((plP f t m S i).1, (plP f t m S i).2.1) M' ∧ PnF a M M' ∧ ((plP f t m S i).1 = 0 → PlC a (plP f t m S i).2.2 M' ∧ PlOk (plP f t m S i).2.2) := by
  intro m
  induction m with
  | zero => intro n l i S M h1 h2; omega
  | succ m ih =>
    intro n l i S M him hiT hn hl h hP hO
    obtain ⟨l, rfl⟩ : ∃ k, l = k + 1 := ⟨l - 1, by omega⟩
    have hA : AtC f t (tS f t i) M := h.2.1 rfl
    have hT5 : tkT f t (tS f t i) ≤ 4 := tkT_le
    have hstop : ∀ M1, L_X7_read_12 fu l a (some 0) 0 (i3 (n + 1)) M1 = some (0, M1) := fun M1 => by
      obtain ⟨l', rfl⟩ : ∃ k, l = k + 1 := ⟨l - 1, by omega⟩
      unfold L_X7_read_12
      by_cases c : (1000 : Int32) ≤ i3 (n + 1)
      · rw [if_pos c, xb_f, gd_t]
      · rw [if_neg c, if_pos rfl, xb_f, gd_t]
    unfold plP
    by_cases c : tkT f t (tS f t i) = 0
    · rw [if_pos c]
      refine ⟨M, ?_, h, PnF_rf, fun _ => ⟨hP, hO⟩⟩
      unfold L_X7_read_12
      by_cases cc : (1000 : Int32) ≤ i3 n
      · rw [if_pos cc, xb_t, gd_t]
        rfl
      · rw [if_neg cc, if_neg (show ¬ (1 : Int32) = 0 by decide)]
        simp only [Option.bind_some]
        rw [hA.2.2.2.2.1, if_pos (show i3 (tkT f t (tS f t i)) = 0 by rw [c]; rfl), xb_t, gd_t]
        rfl
    · rw [if_neg c]
      have hlt := tok_lt hT0 hiT c
      have hhead : L_X7_read_12 fu (l + 1) a (some 0) 1 (i3 n) M = (F_X7_readLine fu a (some 0) M).bind fun p_2 => if p_2.1 = 0 then L_X7_read_12 fu l a (some 0) 0 (i3 (n + 1)) p_2.2 else (F_X10_takeSign fu 0 59 p_2.2).bind fun p_4 => if p_4.1 = 0 then L_X7_read_12 fu l a (some 0) 0 (i3 (n + 1)) p_4.2 else L_X7_read_12 fu l a (some 0) 1 (i3 (n + 1)) p_4.2 := by
        conv => lhs; unfold L_X7_read_12
        rw [if_neg (show ¬ (1000 : Int32) ≤ i3 n from fun z => by have := (i3_le (a := 1000) (by omega) (by omega)).mp z; omega), if_neg (show ¬ (1 : Int32) = 0 by decide)]
        simp only [Option.bind_some]
        rw [hA.2.2.2.2.1, i3_add1, if_neg (show ¬ i3 (tkT f t (tS f t i)) = 0 from fun z => c ((i3_eq (b := 0) (by omega) (by omega)).mp z))]
      rw [hhead]
      obtain ⟨M1, r1, r2, r3, r4⟩ := e_pline (fu := fu) h hP hO ha hf hT0 hT hlt
      have hok := plLn_ok (f := f) (t := t) hO hT0 hT hlt
      have hgt := plLn_gt (f := f) (t := t) (S := S) hT0 hlt
      rw [r1]
      simp only [Option.bind_some]
      generalize plLn f t S i = p at r2 r4 hok hgt ⊢
      by_cases p0 : p.1 = 0
      · obtain ⟨ok1, ok2⟩ := hok p0
        have hg := hgt p0
        have r2' : LnC f t (0, p.2.1) M1 := by
          have e : (p.1, p.2.1) = (0, p.2.1) := by rw [p0]
          rw [← e]; exact r2
        obtain ⟨M2, s1, s2, s3⟩ := e_takeSg (fu := fu) (w := 59) r2' hf (by omega)
        rw [if_pos p0, decide_eq_true p0, if_neg (show ¬ bz true = 0 from by decide), show F_X10_takeSign fu 0 59 M1 = _ from s1]
        simp only [Option.bind_some]
        have hP2 := PlC_ny (r4 p0) s3
        have gi := tkSg_i (f := f) (t := t) (i := p.2.1) (w := 59)
        have gT := tkSg_T (f := f) (w := 59) hT0 ok2
        generalize tkSg f t p.2.1 59 = g at s2 gi gT ⊢
        by_cases g0 : g.1 = 0
        · have s2' : LnC f t (0, g.2) M2 := by
            have e : g = (0, g.2) := by rw [← g0]
            rw [← e]; exact s2
          obtain ⟨M3, u1, u2, u3, u4⟩ := ih (n + 1) l g.2 p.2.2 M2 (by omega) (by omega) (by omega) (by omega) s2' hP2 ok1
          rw [if_pos g0, decide_eq_true g0, if_neg (show ¬ bz true = 0 from by decide)]
          exact ⟨M3, u1, u2, PnF_tr r3 (PnF_tr (PnF_ny s3) u3), u4⟩
        · rw [if_neg g0, decide_eq_false g0, if_pos (show bz false = 0 from rfl), hstop]
          exact ⟨M2, rfl, s2, PnF_tr r3 (PnF_ny s3), fun z => absurd z g0⟩
      · rw [if_neg p0, decide_eq_false p0, if_pos (show bz false = 0 from rfl), hstop]
        exact ⟨M1, rfl, r2, r3, fun z => absurd z p0⟩
/-- a PLAN read, the class -/
theorem e_planRead (ha : a < 2) (hf : 1100 < fu) (h : TpC f t M) (hT0 : tS f t T = t) (hT : T ≤ 1000) :
    ∃ M', F_X7_read fu a (some 0) M = some (bz (decide ((plP f t 1001 plS0 0).1 = 0)), M') ∧ LnC f t ((plP f t 1001 plS0 0).1, (plP f t 1001 plS0 0).2.1) M' ∧ PnF a M M' ∧ ((plP f t 1001 plS0 0).1 = 0 → PlC a (plP f t 1001 plS0 0).2.2 M' ∧ PlOk (plP f t 1001 plS0 0).2.2) := by
  have hL := h.1
  have t7 : ∀ {M : xM} {k : Nat} {v : Int32}, TpC f t M → TpC f t (sI M 7 a k v) := fun {M k v} h => ⟨h.1, h.2.1, by rw [gI_sI, if_neg (by omega)]; exact h.2.2.1, fun i hi => by rw [gI_sI, if_neg (by omega)]; exact h.2.2.2 i hi⟩
  have t8 : ∀ {M : xM} {k : Nat} {v : Int32}, TpC f t M → TpC f t (sI M 8 a k v) := fun {M k v} h => ⟨h.1, h.2.1, by rw [gI_sI, if_neg (by omega)]; exact h.2.2.1, fun i hi => by rw [gI_sI, if_neg (by omega)]; exact h.2.2.2 i hi⟩
  have hM0 : ∃ M0, M0 = sI (sI (sI (sI (sI (sI M 7 a 0 0) 7 a 1 0) 7 a 2 0) 7 a 3 0) 7 a 8 0) 8 a 3 0 := ⟨_, rfl⟩
  obtain ⟨M0, hM0⟩ := hM0
  have hT0' : TpC f t M0 := by rw [hM0]; exact t8 (t7 (t7 (t7 (t7 (t7 h)))))
  have hF0 : PnF a M M0 := by
    rw [hM0]
    exact PnF_tr (PnF_7 (M := M) (k := 0) (v := 0)) (PnF_tr (PnF_7 (k := 1) (v := 0)) (PnF_tr (PnF_7 (k := 2) (v := 0)) (PnF_tr (PnF_7 (k := 3) (v := 0)) (PnF_tr (PnF_7 (k := 8) (v := 0)) ⟨fun _ _ _ => rfl, fun _ _ => rfl, fun _ _ _ _ _ => rfl, fun c s k q1 q2 q3 q4 => by rw [gI_sI, if_neg (by omega)]⟩))))
  have h7 : ∀ j, j < 4 ∨ j = 8 → gI M0 7 a j = 0 := fun j hj => by
    rw [hM0, gI_sI, if_neg (by omega), gI_sI]
    by_cases c8 : j = 8
    · rw [if_pos ⟨rfl, rfl, c8⟩]
    · rw [if_neg (fun z => c8 z.2.2), gI_sI]
      by_cases c3 : j = 3
      · rw [if_pos ⟨rfl, rfl, c3⟩]
      · rw [if_neg (fun z => c3 z.2.2), gI_sI]
        by_cases c2 : j = 2
        · rw [if_pos ⟨rfl, rfl, c2⟩]
        · rw [if_neg (fun z => c2 z.2.2), gI_sI]
          by_cases c1 : j = 1
          · rw [if_pos ⟨rfl, rfl, c1⟩]
          · rw [if_neg (fun z => c1 z.2.2), gI_sI, if_pos ⟨rfl, rfl, by omega⟩]
  have h8 : gI M0 8 a 3 = 0 := by rw [hM0, gI_sI, if_pos ⟨rfl, rfl, rfl⟩]
  have hTb : TpC f t (sI (sI M0 10 0 9 0) 10 0 8 0) := TpC_s (TpC_s hT0' (by omega)) (by omega)
  obtain ⟨M1, r1, r2, r3⟩ := e_next (fu := fu) (e := 0) hTb (Nat.zero_le _) (by rw [gI_sI, if_pos ⟨rfl, rfl, rfl⟩]; rfl) hf
  have hN1 : NyF M0 M1 := NyF_tr (M1 := sI M0 10 0 9 0) NyF_9 (NyF_tr (NyF_nx (NxF_I (k := 8) (by omega))) (NyF_nx r3))
  have h0 : LnC f t (0, 0) M1 := ⟨r2.1, fun _ => r2, fun q => absurd rfl q⟩
  have hP0 : PlC a plS0 M0 := ⟨fun j hj => h7 j (Or.inl hj), h7 8 (Or.inr rfl), fun k hk => absurd hk (Nat.not_lt_zero _), ⟨h8, fun k hk => absurd hk (Nat.not_lt_zero _)⟩⟩
  have hO0 : PlOk plS0 := ⟨Nat.zero_le _, Nat.zero_le _, Nat.zero_le _, Nat.zero_le _, rfl, Nat.zero_le _, by decide, fun k hk => absurd hk (Nat.not_lt_zero _), fun k j hk => absurd hk (Nat.not_lt_zero _), fun _ => rfl, fun z => absurd z (by decide)⟩
  obtain ⟨M2, s1, s2, s3, s4⟩ := e_ploop (fu := fu) ha hf hT0 hT 1001 0 fu 0 plS0 M1 (by omega) (Nat.zero_le _) (Nat.le_refl _) (by omega) h0 (PlC_ny hP0 hN1) hO0
  refine ⟨M2, ?_, s2, PnF_tr hF0 (PnF_tr (PnF_ny hN1) s3), s4⟩
  unfold F_X7_read F_X7_clear F_X10_begin
  simp only
  rw [l7_6 (M := sI (sI (sI (sI (sI M 7 a 0 0) 7 a 1 0) 7 a 2 0) 7 a 3 0) 7 a 8 0) hL ha]
  simp only [Option.bind_some]
  rw [← hM0, r1]
  simp only [Option.bind_some]
  exact s1
end
