/-! ===== a WORK's line, read: the reference ===== -/
section
variable {M M' M1 N : xM} {X Y Y' Y1 : xT} {f : Nat → Nat} {fu l t T n i j k d s x a b w F e m g : Nat} {c ls : List Nat} {q : Nat × Nat} {u v y0 : Int32} {nm : Nat → List Nat} {D : Nat → Nat → Nat} {C : xC}
/-- behind a name that a FILE bears -/
theorem t_j85 (h : LnX f t T (0, i) Y N) (hi : i < T) (hT0 : tS f t T = t) (ht : t ≤ 1000) (hp : 100 ≤ g) (hg : g + 3 < 200) (hk : k < 6) (hx : x < 1000) :
    ∃ Y', J_X12_readWork_85 fu 0 (i3 g) (i3 k) (i3 x) (mmb Y N) = some (mmb Y' N) ∧ LnX f t T (if k = 0 then ((wlNum f t (i + 1)).1, (wlNum f t (i + 1)).2.1) else (0, i + 1)) Y' N ∧ MkF Y Y' ∧ (∀ k, k < g + 1 ∨ g + 3 < k → Y' 92 k = Y 92 k) ∧
      ((if k = 0 then (wlNum f t (i + 1)).1 else 0) = 0 → Y' 92 (g + 1) = i3 x ∧ (k = 0 → Y' 92 (g + 2) = i3 (wlNum f t (i + 1)).2.2.1 ∧ Y' 92 (g + 3) = i3 (wlNum f t (i + 1)).2.2.2) ∧ (k ≠ 0 → Y' 92 (g + 2) = Y 92 (g + 2) ∧ Y' 92 (g + 3) = Y 92 (g + 3))) := by
  have hL := h.1.1
  have e1 : i3 g + 1 = i3 (g + 1) := i3_add g 1
  obtain ⟨r1, r2⟩ := LnX_nx h hi
  have hF1 : MkF Y (up (up Y 0 7 (i3 (i + 1))) 92 (g + 1) (i3 x)) := MkF_tr (MkF_xn r2) (MkF_92 (by omega))
  unfold J_X12_readWork_85
  rw [if_pos (by rw [x8_le h]), x_7 h]
  simp only
  rw [gr14 hL]
  simp only [Option.bind_some]
  rw [e1, gd92 hL (by omega), xi_i3 (by omega), p_92, gr14 hL]
  by_cases k0 : k = 0
  · obtain ⟨Y', s1, s2, s3, s4, s5⟩ := t_nums (fu := fu) (g := g) (LnX_92 (k := g + 1) (v := i3 x) r1) hi hT0 ht hp hg
    rw [if_neg (fun z => z (show i3 k = 0 by rw [k0]; rfl))]
    simp only [if_pos k0]
    refine ⟨Y', ?_, s2, MkF_tr hF1 s3, fun k hk => ?_, fun z => ⟨?_, fun _ => s5 z, fun z2 => absurd k0 z2⟩⟩
    · rw [← s1]
    · rw [s4 k (by omega) (by omega), up_ne (by omega), up_ne (by omega)]
    · rw [s4 _ (by omega) (by omega), up_eq]
  · rw [if_pos (show ¬ i3 k = 0 from fun z => k0 ((i3_eq (b := 0) (by omega) (by omega)).mp z))]
    simp only [if_neg k0]
    exact ⟨_, rfl, LnX_92 r1, hF1, fun k hk => by rw [up_ne (by omega), up_ne (by omega)], fun _ => ⟨up_eq, fun z => absurd z k0, fun _ => ⟨by rw [up_ne (by omega), up_ne (by omega)], by rw [up_ne (by omega), up_ne (by omega)]⟩⟩⟩
end
