/-! ===== a PLAN's line, read: the class ===== -/
def tbK (k : Nat) : Nat := if k = 3 then 5 else k
section
variable {M M' M1 M5 N : xM} {X Y Y' Y1 : xT} {f : Nat → Nat} {fu l t T n i j k d s x a b w F e m g lo hi p : Nat} {c ls : List Nat} {q : Nat × Nat} {u v y0 : Int32} {nm : Nat → List Nat} {S S' : plS} {y : Int64} {C : xC}
theorem tld_0 : ∀ m : Fin 16, ∀ k : Fin 4, (i3 (cmT m) &&& (1 <<< (i3 (tbK k) &&& 31)) = 0) ↔ ((m : Nat) / 2 ^ (k : Nat) % 2 = 0) := by decide +kernel
theorem tld_1 : ∀ m : Fin 16, ∀ k : Fin 4, ((m : Nat) / 2 ^ (k : Nat) % 2 = 0) → (i3 (cmT m) ||| (1 <<< (i3 (tbK k) &&& 31)) = i3 (cmT ((m : Nat) + 2 ^ (k : Nat)))) := by decide +kernel
theorem told_0 (hm : m < 16) (hk : k < 4) (he : j = tbK k) : (i3 (cmT m) &&& (1 <<< (i3 j &&& 31)) = 0) = (m / 2 ^ k % 2 = 0) := by
  subst he
  exact propext (tld_0 ⟨m, hm⟩ ⟨k, hk⟩)
theorem told_1 (hm : m < 16) (hk : k < 4) (he : j = tbK k) (h0 : m / 2 ^ k % 2 = 0) : i3 (cmT m) ||| (1 <<< (i3 j &&& 31)) = i3 (cmT (m + 2 ^ k)) := by
  subst he
  exact tld_1 ⟨m, hm⟩ ⟨k, hk⟩ h0
/-- a number, kept as the plan's k-th -/
theorem e_plNum (h : LnC f t (0, i) M) (hf : 1100 < fu) (hl : lo ≤ 1000) (hh : hi ≤ 1000) :
    ∃ M', ((F_X10_takeNumber fu 0 (i3 lo) (i3 hi) M).bind fun p_11 => if gI (sI p_11.2 7 a k p_11.1) 7 a k < 0 then gd (xbool 0) (some (0, sI p_11.2 7 a k p_11.1)) else gd (xbool 1) (some (1, sI p_11.2 7 a k p_11.1))) = some (bz (decide ((tkNu f t i lo hi).1 = 0)), M') ∧ LnC f t ((tkNu f t i lo hi).1, (tkNu f t i lo hi).2.1) M' ∧
      (∃ M2 v, M' = sI M2 7 a k v ∧ NyF M M2 ∧ ((tkNu f t i lo hi).1 = 0 → v = i3 (tkNu f t i lo hi).2.2)) := by
  obtain ⟨M2, r1, r2, r3⟩ := e_takeNu (fu := fu) (lo := lo) (hi := hi) h hf hl hh
  have hv := tkNu_le (f := f) (t := t) (i := i) (k := lo) (d := hi)
  rw [r1]
  simp only [Option.bind_some]
  have e7 : ∀ v, gI (sI M2 7 a k v) 7 a k = v := fun v => by rw [gI_sI, if_pos ⟨rfl, rfl, rfl⟩]
  generalize tkNu f t i lo hi = p at r2 hv ⊢
  by_cases p0 : p.1 = 0
  · rw [if_pos p0]
    refine ⟨sI M2 7 a k (i3 p.2.2), ?_, LnC_7 r2, M2, _, rfl, r3, fun _ => rfl⟩
    rw [e7, if_neg (show ¬ i3 p.2.2 < 0 from fun z => (i3_nl (a := p.2.2) (by omega)).mp z), xb_t, gd_t, decide_eq_true p0]
    rfl
  · rw [if_neg p0]
    refine ⟨sI M2 7 a k (-1), ?_, LnC_7 r2, M2, _, rfl, r3, fun z => absurd z p0⟩
    rw [e7, if_pos (show (-1 : Int32) < 0 by decide), xb_f, gd_t, decide_eq_false p0]
    rfl
/-- a number's line -/
theorem PlC_num {M2 : xM} (hP : PlC a S M) (hM : M1 = sI M 7 a 8 (i3 (cmT (S.2.2.1 + 2 ^ k)))) (h1 : NyF M1 M2) (hk : k < 3) (hC : C = cUp S.1 0 k x) : PlC a (C, S.2.1, S.2.2.1 + 2 ^ k, S.2.2.2) (sI M2 7 a k (i3 x)) := by
  obtain ⟨g1, g2, g3, g4⟩ := hP
  subst hC
  have o : ∀ c s j, (c ≠ 10 ∨ s ≠ 0) → (c ≠ 7 ∨ s ≠ a ∨ j ≠ 8) → gI M2 c s j = gI M c s j := fun c s j q1 q2 => by rw [h1.2.2.2 c s j (by omega), hM, gI_sI, if_neg (by omega)]
  have oL : ∀ j, gL M2 21 a j = gL M 21 a j := fun j => by rw [h1.2.2.1 21 a j (by omega), hM]; rfl
  have e0 : cUp S.1 0 k x 0 3 = S.1 0 3 := cUp_n (by omega)
  refine ⟨fun j hj => ?_, ?_, fun j hj => ?_, CdC_cg (M := M) (fun j => ?_) ?_ g4⟩
  · show gI (sI M2 7 a k (i3 x)) 7 a j = i3 (cUp S.1 0 k x 0 j)
    by_cases c : j = k
    · rw [c, gI_sI, if_pos ⟨rfl, rfl, rfl⟩, cUp_e]
    · rw [gI_sI, if_neg (by omega), o 7 a j (by omega) (by omega), cUp_n (by omega)]; exact g1 j hj
  · rw [gI_sI, if_neg (by omega), h1.2.2.2 7 a 8 (by omega), hM, gI_sI, if_pos ⟨rfl, rfl, rfl⟩]
  · have hj' : j < S.1 0 3 := by
      have hj2 : j < cUp S.1 0 k x 0 3 := hj
      rw [e0] at hj2; exact hj2
    obtain ⟨z1, z2, z3⟩ := g3 j hj'
    refine ⟨?_, ?_, ?_⟩
    · show gI (sI M2 7 a k (i3 x)) 20 (5 * a + 0) j = i3 (cUp S.1 0 k x 1 j)
      rw [gI_sI, if_neg (by omega), o 20 _ j (by omega) (by omega), cUp_n (by omega)]; exact z1
    · show gI (sI M2 7 a k (i3 x)) 20 (5 * a + 1) j = i3 (cUp S.1 0 k x 2 j)
      rw [gI_sI, if_neg (by omega), o 20 _ j (by omega) (by omega), cUp_n (by omega)]; exact z2
    · exact (oL j).trans z3
  · rw [gI_sI, if_neg (by omega), o 20 _ j (by omega) (by omega)]
  · rw [gI_sI, if_neg (by omega), o 8 _ _ (by omega) (by omega)]
theorem e_plnum (h : LnC f t (0, i) M) (hP : PlC a S M) (hO : PlOk S) (hf : 1100 < fu) (hk : k < 3) (h0 : S.2.2.1 / 2 ^ k % 2 = 0) (hl : lo ≤ 1000) (hh : hi ≤ 1000) :
    ∃ M', ((F_X10_next fu 0 (sI M 7 a 8 (i3 (cmT (S.2.2.1 + 2 ^ k))))).bind fun p_9 => (F_X10_takeNumber fu 0 (i3 lo) (i3 hi) p_9).bind fun p_11 => if gI (sI p_11.2 7 a k p_11.1) 7 a k < 0 then gd (xbool 0) (some (0, sI p_11.2 7 a k p_11.1)) else gd (xbool 1) (some (1, sI p_11.2 7 a k p_11.1))) = some (bz (decide ((plNum f t S k lo hi i).1 = 0)), M') ∧ LnC f t ((plNum f t S k lo hi i).1, (plNum f t S k lo hi i).2.1) M' ∧ PnF a M M' ∧ ((plNum f t S k lo hi i).1 = 0 → PlC a (plNum f t S k lo hi i).2.2 M') := by
  obtain ⟨M1, r1, r2, r3⟩ := LnC_nx (LnC_7 (a := a) (k := 8) (v := i3 (cmT (S.2.2.1 + 2 ^ k))) h) hf
  obtain ⟨M', s1, s2, M2, v, s3, s4, s5⟩ := e_plNum (fu := fu) (a := a) (k := k) r2 hf hl hh
  rw [r1]
  simp only [Option.bind_some]
  have hF : PnF a M M' := by rw [s3]; exact PnF_tr (PnF_7 (M := M) (k := 8)) (PnF_tr (PnF_ny r3) (PnF_tr (PnF_ny s4) PnF_7))
  refine ⟨M', s1, s2, hF, fun z => ?_⟩
  have z' : (tkNu f t (i + 1) lo hi).1 = 0 := z
  rw [s3, s5 z']
  exact PlC_num hP rfl (NyF_tr r3 s4) hk rfl
theorem e_plrule (h : LnC f t (0, i) M) (hP : PlC a S M) (ha : a < 2) (hf : 1100 < fu) (hT0 : tS f t T = t) (hT : T ≤ 1000) (hi : i < T) :
    ∃ M', ((F_X10_next fu 0 (sI M 7 a 8 (i3 (cmT (S.2.2.1 + 8))))).bind fun p_9 => (gR p_9 7 a 6).bind fun a_19 => (F_X8_read fu a_19 (some 0) p_9).bind fun p_20 => gd (xbool p_20.1) (some (p_20.1, p_20.2))) = some (bz (decide ((plRule f t S i).1 = 0)), M') ∧ LnC f t ((plRule f t S i).1, (plRule f t S i).2.1) M' ∧ PnF a M M' ∧ ((plRule f t S i).1 = 0 → PlC a (plRule f t S i).2.2 M') := by
  obtain ⟨M1, r1, r2, r3⟩ := LnC_nx (LnC_7 (a := a) (k := 8) (v := i3 (cmT (S.2.2.1 + 8))) h) hf
  have hA1 : AtC f t (tS f t (i + 1)) M1 := r2.2.1 rfl
  have hL1 := r2.1.1
  have hT1 : TpC f t (sI M1 8 a 3 0) := ⟨hL1, r2.1.2.1, by rw [gI_sI, if_neg (by omega)]; exact r2.1.2.2.1, fun i hi => by rw [gI_sI, if_neg (by omega)]; exact r2.1.2.2.2 i hi⟩
  have hcl : ClS f t a (0, i + 1, []) (sI M1 8 a 3 0) := by
    refine ⟨hT1, ⟨by rw [gI_sI, if_pos ⟨rfl, rfl, rfl⟩]; rfl, fun k hk => absurd hk (Nat.not_lt_zero _)⟩, fun _ => ?_, fun z => absurd rfl z⟩
    obtain ⟨a1, a2, a3, a4, a5, a6, a7, a8, a9⟩ := hA1
    have e10 : ∀ k', gI (sI M1 8 a 3 0) 10 0 k' = gI M1 10 0 k' := fun k' => by rw [gI_sI, if_neg (by omega)]
    exact ⟨hT1, a2, (e10 _).trans a3, (e10 _).trans a4, (e10 _).trans a5, (e10 _).trans a6, fun z => (e10 _).trans (a7 z), fun z => (e10 _).trans (a8 z), a9⟩
  have hr := ClR_all (fu := fu) (F := F_X8_readPart fu 16) (r := pPart f t 16 0) (dd := i3 0) (t := t) (T := T) ha hf hT0 (ClR_part ha hf hT0 hT 16 0 (by omega) (by omega)) (pB_part hT0 16 0) hT
  obtain ⟨M', s1, s2, s3⟩ := hr (i + 1) [] (sI M1 8 a 3 0) (by omega) (by exact Nat.zero_le _) hcl
  have hF : PnF a M M' := PnF_tr (PnF_7 (M := M) (k := 8)) (PnF_tr (PnF_ny r3) (PnF_tr (M1 := sI M1 8 a 3 0) ⟨fun _ _ _ => rfl, fun _ _ => rfl, fun _ _ _ _ _ => rfl, fun c s k q1 q2 q3 q4 => by rw [gI_sI, if_neg (by omega)]⟩ (PnF_rd s3)))
  refine ⟨M', ?_, ⟨s2.1, s2.2.2.1, s2.2.2.2⟩, hF, fun z => ?_⟩
  · rw [r1]
    simp only [Option.bind_some]
    rw [l7_6 hL1 ha]
    simp only [Option.bind_some]
    unfold F_X8_read
    simp only
    rw [show F_X8_readAll fu (F_X8_readPart fu 16) a (some 0) 0 (sI M1 8 a 3 0) = _ from s1]
    simp only [Option.bind_some]
    rw [bz_x, gd_t]
    simp only [Option.bind_some]
    rw [bz_x, gd_t]
    rfl
  · obtain ⟨g1, g2, g3, g4⟩ := hP
    have o : ∀ c s j, (c ≠ 10 ∨ s ≠ 0) → (c ≠ 7 ∨ s ≠ a ∨ j ≠ 8) → (c ≠ 8 ∨ s ≠ a ∨ j ≠ 3) → (c ≠ 20 ∨ s ≠ 5 * a + 2) → gI M' c s j = gI M c s j := fun c s j q1 q2 q3 q4 => by
      rw [s3.2.2.2 c s j (by omega) q3 q4, gI_sI, if_neg (by omega), r3.2.2.2 c s j (by omega), gI_sI, if_neg (by omega)]
    have e8 : gI M' 7 a 8 = i3 (cmT (S.2.2.1 + 8)) := by
      rw [s3.2.2.2 7 a 8 (by omega) (by omega) (by omega), gI_sI, if_neg (by omega), r3.2.2.2 7 a 8 (by omega), gI_sI, if_pos ⟨rfl, rfl, rfl⟩]
    have oL : ∀ j, gL M' 21 a j = gL M 21 a j := fun j => (s3.2.2.1 21 a j (by omega)).trans (r3.2.2.1 21 a j (by omega))
    have e3 : ∀ m, cUp S.1 0 4 m 0 3 = S.1 0 3 := fun m => cUp_n (by omega)
    refine ⟨fun j hj => ?_, e8, fun j hj => ?_, s2.2.1⟩
    · show gI M' 7 a j = i3 (cUp S.1 0 4 (pAll f t (pPart f t 16 0) (i + 1) []).2.2.length 0 j)
      rw [o 7 a j (by omega) (by omega) (by omega) (by omega), cUp_n (by omega)]; exact g1 j hj
    · have hj' : j < S.1 0 3 := by
        have hj2 : j < cUp S.1 0 4 (pAll f t (pPart f t 16 0) (i + 1) []).2.2.length 0 3 := hj
        rw [e3] at hj2; exact hj2
      obtain ⟨z1, z2, z3⟩ := g3 j hj'
      refine ⟨?_, ?_, (oL j).trans z3⟩
      · show gI M' 20 (5 * a + 0) j = i3 (cUp S.1 0 4 (pAll f t (pPart f t 16 0) (i + 1) []).2.2.length 1 j)
        rw [o 20 _ j (by omega) (by omega) (by omega) (by omega), cUp_n (by omega)]; exact z1
      · show gI M' 20 (5 * a + 1) j = i3 (cUp S.1 0 4 (pAll f t (pPart f t 16 0) (i + 1) []).2.2.length 2 j)
        rw [o 20 _ j (by omega) (by omega) (by omega) (by omega), cUp_n (by omega)]; exact z2
end
