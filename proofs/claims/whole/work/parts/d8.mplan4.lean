/-! ===== a PLAN's line, read: the reference ===== -/
section
variable {M M' M1 N N' N1 : xM} {X Y Y' Y1 : xT} {f : Nat → Nat} {fu l t T n i j k d s x a b w F e m g lo hi hi' p : Nat} {c ls : List Nat} {q : Nat × Nat} {u v y0 : Int32} {nm : Nat → List Nat} {S S' : plS} {y : Int64} {C : xC}
theorem onc_0 : ∀ m : Fin 16, ∀ k : Fin 4, (((i3 m >>> (i3 k &&& 31)) &&& 1 = 1) ↔ ((m : Nat) / 2 ^ (k : Nat) % 2 = 1)) ∧ ((m : Nat) / 2 ^ (k : Nat) % 2 = 0 → i3 m ||| (1 <<< (i3 k &&& 31)) = i3 ((m : Nat) + 2 ^ (k : Nat))) := by decide +kernel
/-- told once: the bit of line k -/
theorem t_isOnce (h : LnX f t T (0, i) Y N) (hi : i < T) (ht : t ≤ 1000) (hk : k < 4) (hm : m < 16) (h35 : Y 90 35 = i3 m) :
    (m / 2 ^ k % 2 = 0 → F_X12_isOnce fu 0 (i3 k) (mmb Y N) = some (1, mmb (up (up Y 90 35 (i3 (m + 2 ^ k))) 0 7 (i3 (i + 1))) N)) ∧ (m / 2 ^ k % 2 ≠ 0 → ∃ Y', F_X12_isOnce fu 0 (i3 k) (mmb Y N) = some (0, mmb Y' N) ∧ LnX f t T (3 + 16 * tS f t i, i) Y' N ∧ XnF Y Y') := by
  have hL := h.1.1
  obtain ⟨z1, z2⟩ := onc_0 ⟨m, hm⟩ ⟨k, hk⟩
  have z1' : ((i3 m >>> (i3 k &&& 31)) &&& 1 = 1) ↔ (m / 2 ^ k % 2 = 1) := z1
  have z2' : m / 2 ^ k % 2 = 0 → i3 m ||| (1 <<< (i3 k &&& 31)) = i3 (m + 2 ^ k) := z2
  have e35 : (35 : Int32) = i3 35 := rfl
  unfold F_X12_isOnce
  rw [gr10 hL, e35]
  simp only [Option.bind_some]
  rw [gd90 hL (by omega), xi_i3 (by omega), m_90, h35]
  constructor
  · intro c
    rw [if_pos (show ¬ ((i3 m >>> (i3 k &&& 31)) &&& 1) = 1 from fun z => by have := z1'.mp z; omega), gd90 hL (by omega), gd90 hL (by omega), z2' c, p_90, x_7 (LnX_90 h), xb_t, gd_t]
  · intro c
    have c1 : m / 2 ^ k % 2 = 1 := by omega
    obtain ⟨Y', r1, r2, r3⟩ := LnX_fail (fu := fu) (k := 3) h (by omega) (by omega) ht
    refine ⟨Y', ?_, r2, r3⟩
    rw [if_neg (fun z => z (z1'.mpr c1)), show F_X12_wrong fu 0 3 (mmb Y N) = _ from r1]
    simp only [Option.bind_some]
    rw [xb_f, gd_t]
theorem PlX_num (hP : PlX S Y N) (h5' : S.1 0 3 ≤ 5) (hk : k < 3) (ht8 : (S.2.2.1 + 2 ^ k) / 8 % 2 = S.2.2.1 / 8 % 2) (hX : XnF (up (up Y 90 35 (i3 (S.2.2.1 + 2 ^ k))) 0 7 u) Y1) (hC : C = cUp S.1 0 k x) : PlX (C, S.2.1, S.2.2.1 + 2 ^ k, S.2.2.2) (up Y1 90 (20 + k) (i3 x)) N := by
  subst hC
  obtain ⟨h1, h2, h3, h4, h5⟩ := hP
  have o : ∀ j i, j ≠ 0 ∨ i ≠ 7 ∧ i ≠ 8 → (j ≠ 90 ∨ i ≠ 35 ∧ i ≠ 20 + k) → up Y1 90 (20 + k) (i3 x) j i = Y j i := fun j i q1 q2 => by
    rw [up_ne (by omega), hX j i (by omega), up_ne (by omega), up_ne (by omega)]
  refine ⟨fun j hj => ?_, ?_, fun j hj => ?_, fun z => ?_, fun z => ?_⟩
  · show up Y1 90 (20 + k) (i3 x) 90 (20 + j) = i3 (cUp S.1 0 k x 0 j)
    by_cases c : j = k
    · rw [c, up_eq, cUp_e]
    · rw [o _ _ (by omega) (by omega), cUp_n (by omega)]; exact h1 j hj
  · rw [up_ne (by omega), hX 90 35 (by omega), up_ne (by omega), up_eq]
  · have hj2 : j < cUp S.1 0 k x 0 3 := hj
    rw [cUp_n (by omega)] at hj2
    show _ = i3 (cUp S.1 0 k x 1 j) ∧ _ = i3 (cUp S.1 0 k x 2 j) ∧ _
    rw [o _ _ (by omega) (by omega), o _ _ (by omega) (by omega), cUp_n (by omega), cUp_n (by omega)]
    exact h3 j hj2
  · have z' : (S.2.2.1 + 2 ^ k) / 8 % 2 = 0 := z
    rw [ht8] at z'
    rw [o _ _ (by omega) (by omega), o _ _ (by omega) (by omega)]
    exact h4 z'
  · have z' : (S.2.2.1 + 2 ^ k) / 8 % 2 = 1 := z
    rw [ht8] at z'
    obtain ⟨g1, g2, g3, g4⟩ := h5 z'
    exact ⟨(o _ _ (by omega) (by omega)).trans g1, (o _ _ (by omega) (by omega)).trans g2, (o _ _ (by omega) (by omega)).trans g3, fun j hj => (o _ _ (by omega) (by omega)).trans (g4 j hj)⟩
theorem t_plnum (h : LnX f t T (0, i) Y N) (hP : PlX S Y N) (hO : PlOk S) (hi : i < T) (hT0 : tS f t T = t) (ht : t ≤ 1000) (hk : k < 3) (h0 : S.2.2.1 / 2 ^ k % 2 = 0) (hl : lo ≤ 1000) (hh : hi' ≤ 1000) (hv : v = i3 k) (hx : (if ¬ v = 2 then (6 : Int32) else 8) = i3 hi') :
    ∃ Y', J_X12_readLine_53 fu v (i3 lo) 0 (20 + v) (some 90) (mmb (up (up Y 90 35 (i3 (S.2.2.1 + 2 ^ k))) 0 7 (i3 (i + 1))) N) = some (mmb Y' N) ∧ LnX f t T ((plNum f t S k lo hi' i).1, (plNum f t S k lo hi' i).2.1) Y' N ∧ PxF Y Y' ∧ ((plNum f t S k lo hi' i).1 = 0 → PlX (plNum f t S k lo hi' i).2.2 Y' N) := by
  have hL := h.1.1
  have hm := hO.2.2.2.2.2.2.1
  obtain ⟨t1, t2, t3⟩ := told_2 (k := k) hm (by omega) h0
  obtain ⟨r1, r2⟩ := LnX_nx (LnX_90 (k := 35) (v := i3 (S.2.2.1 + 2 ^ k)) h) hi
  obtain ⟨Y1, s1, s2, s3⟩ := t_takeNu (fu := fu) (lo := lo) (hi' := hi') r1 (show i + 1 ≤ T by omega) hT0 ht hl hh
  have hw : (gd (xin (20 + v) (gN (mmb Y1 N) 20 90)) <| some (sI (mmb Y1 N) 20 90 (xi (20 + v)) (i3 (tkNu f t (i + 1) lo hi').2.2))) = some (mmb (up Y1 90 (20 + k) (i3 (tkNu f t (i + 1) lo hi').2.2)) N) := by
    rw [hv, show (20 : Int32) + i3 k = i3 (20 + k) from i3_add 20 k, gd90 hL (by omega), xi_i3 (by omega), p_90]
  refine ⟨up Y1 90 (20 + k) (i3 (tkNu f t (i + 1) lo hi').2.2), ?_, LnX_90 s2, ?_, fun z => PlX_num hP hO.2.2.2.1 hk (t2 hk) s3 rfl⟩
  · unfold J_X12_readLine_53
    by_cases c2 : v = 2
    · rw [if_neg (fun z => z c2)] at hx ⊢
      rw [hx, show F_X12_takeNumber fu 0 (i3 lo) (i3 hi') (mmb (up (up Y 90 35 (i3 (S.2.2.1 + 2 ^ k))) 0 7 (i3 (i + 1))) N) = _ from s1]
      simp only [Option.bind_some]
      exact hw
    · rw [if_pos c2] at hx ⊢
      rw [hx, show F_X12_takeNumber fu 0 (i3 lo) (i3 hi') (mmb (up (up Y 90 35 (i3 (S.2.2.1 + 2 ^ k))) 0 7 (i3 (i + 1))) N) = _ from s1]
      simp only [Option.bind_some]
      exact hw
  · exact PxF_tr (PxF_90 (Y := Y) (k := 35) (v := i3 (S.2.2.1 + 2 ^ k)) (by omega)) (PxF_tr (PxF_xn r2) (PxF_tr (PxF_xn s3) (PxF_90 (by omega))))
theorem t_plrule (h : LnX f t T (0, i) Y N) (hP : PlX S Y N) (hO : PlOk S) (hi : i < T) (hT0 : tS f t T = t) (ht : t ≤ 1000) (hT : T ≤ 1000) (hf : 1100 < fu) (h0 : S.2.2.1 / 8 % 2 = 0) :
    ∃ Y', ((F_X12_whole fu (F_X12_takePart fu 16) 0 0 (mmb (up (up (up Y 90 35 (i3 (S.2.2.1 + 8))) 0 7 (i3 (i + 1))) 90 24 0) N)).bind fun p_7 => (F_X12_emit fu 0 0 0 p_7).bind fun p_8 => some p_8) = some (mmb Y' N) ∧ LnX f t T ((plRule f t S i).1, (plRule f t S i).2.1) Y' N ∧ PxF Y Y' ∧ ((plRule f t S i).1 = 0 → PlX (plRule f t S i).2.2 Y' N) := by
  have hL := h.1.1
  obtain ⟨h1, h2, h3, h4, h5⟩ := hP
  obtain ⟨g1, g2⟩ := h4 h0
  obtain ⟨r1, r2⟩ := LnX_nx (LnX_90 (k := 35) (v := i3 (S.2.2.1 + 8)) h) hi
  have r1' := LnX_90 (k := 24) (v := 0) r1
  have hm0 : MdS f t T (0, i + 1, []) (up (up (up Y 90 35 (i3 (S.2.2.1 + 8))) 0 7 (i3 (i + 1))) 90 24 0) N := ⟨r1'.1, r1'.2, by rw [up_ne (by omega), up_ne (by omega), up_ne (by omega)]; exact g2, fun k hk => absurd hk (Nat.not_lt_zero _)⟩
  have hr := MdR_all (fu := fu) (N := N) (F := F_X12_takePart fu 16) (r := pPart f t 16 0) (dd := i3 0) (t := t) (T := T) hf hT0 (MdR_part hf hT0 hT ht 16 0 (by omega) (by omega)) (pB_part hT0 16 0) hT
  obtain ⟨Y1, s1, s2, s3⟩ := hr (i + 1) [] _ (by omega) (Nat.zero_le _) hm0
  obtain ⟨z1, z2, z3⟩ := pB_all hT0 (pB_part (f := f) hT0 16 0) (i + 1) [] 0 (by omega) (Nat.zero_le _)
  rw [show F_X12_whole fu (F_X12_takePart fu 16) 0 0 (mmb (up (up (up Y 90 35 (i3 (S.2.2.1 + 8))) 0 7 (i3 (i + 1))) 90 24 0) N) = _ from s1]
  simp only [Option.bind_some]
  unfold plRule
  generalize pAll f t (pPart f t 16 0) (i + 1) [] = p at s2 z2 z3 ⊢
  have hlen : p.2.2.length ≤ 1000 := by omega
  have hLX : LnX f t T (p.1, p.2.1) Y1 N := ⟨s2.1, s2.2.1⟩
  have o : ∀ j i', j ≠ 0 ∨ i' ≠ 7 ∧ i' ≠ 8 ∧ i' ≠ 12 → (j ≠ 91 ∨ i' < 1100) → (j ≠ 90 ∨ i' ≠ 35 ∧ i' ≠ 24) → up (up Y1 91 (1100 + p.2.2.length) 0) 0 12 (i3 (p.2.2.length + 1)) j i' = Y j i' := fun j i' q1 q2 q3 => by
    rw [up_ne (by omega), up_ne (by omega), s3 j i' (by omega) (by omega), up_ne (by omega), up_ne (by omega), up_ne (by omega)]
  have o2 : ∀ j i', j ≠ 0 ∨ i' ≠ 12 → j ≠ 91 → up (up Y1 91 (1100 + p.2.2.length) 0) 0 12 (i3 (p.2.2.length + 1)) j i' = Y1 j i' := fun j i' q1 q2 => by
    rw [up_ne (by omega), up_ne (by omega)]
  refine ⟨up (up Y1 91 (1100 + p.2.2.length) 0) 0 12 (i3 (p.2.2.length + 1)), ?_, LnX_y hLX (fun j k q => o2 j k (by omega) (by omega)), ?_, fun z => ⟨fun j hj => ?_, ?_, fun j hj => ?_, fun z => ?_, fun _ => ⟨?_, up_eq, ?_, fun k hk => ?_⟩⟩⟩
  · unfold F_X12_emit
    rw [gR_mmb, l12_0_11 hL]
    simp only [Option.bind_some]
    rw [gN_mmb, n20_91 hL, m_0, s2.2.2.1, show (1100 : Int32) + i3 p.2.2.length = i3 (1100 + p.2.2.length) from i3_add 1100 _, xin_i3 (show 1100 + p.2.2.length < 2200 by omega) (by omega), gd_t, xi_i3 (by omega), p_91, m_0, up_ne (by omega), s2.2.2.1, i3_add1, p_0]
    rfl
  · refine PxF_tr (PxF_90 (Y := Y) (k := 35) (v := i3 (S.2.2.1 + 8)) (by omega)) (PxF_tr (PxF_xn r2) (PxF_tr (PxF_90 (k := 24) (v := 0) (by omega)) (PxF_tr (PxF_xd s3) fun j k q1 q2 q3 => ?_)))
    rw [up_ne (by omega), up_ne (by omega)]
  · show _ = i3 (cUp S.1 0 4 p.2.2.length 0 j)
    rw [o _ _ (by omega) (by omega) (by omega), cUp_n (by omega)]; exact h1 j hj
  · rw [o2 _ _ (by omega) (by omega), s3 90 35 (by omega) (by omega), up_ne (by omega), up_ne (by omega), up_eq]
  · have hj2 : j < cUp S.1 0 4 p.2.2.length 0 3 := hj
    rw [cUp_n (by omega)] at hj2
    have hF5 := hO.2.2.2.1
    show _ = i3 (cUp S.1 0 4 p.2.2.length 1 j) ∧ _ = i3 (cUp S.1 0 4 p.2.2.length 2 j) ∧ _
    rw [o _ _ (by omega) (by omega) (by omega), o _ _ (by omega) (by omega) (by omega), cUp_n (by omega), cUp_n (by omega)]
    exact h3 j hj2
  · have z' : (S.2.2.1 + 8) / 8 % 2 = 0 := z
    omega
  · rw [o2 _ _ (by omega) (by omega), s3 90 24 (by omega) (by omega), up_eq]
  · rw [up_ne (by omega), up_eq]
  · have hk' : k < p.2.2.length := hk
    rw [up_ne (by omega), up_ne (by omega)]; exact s2.2.2.2 k hk'
end
