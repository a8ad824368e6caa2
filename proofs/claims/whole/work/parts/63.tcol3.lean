/-! ===== collects of the reference: the end ===== -/
section
variable {M : xM} {D E X Y Z T X' E' E'' X'' : xT} {C : xC} {R N : Nat → Int32} {fu b d L s o t k n m i j p q f l w nb nw a : Nat} {x y z v u : Int32} {nt : Bool}
theorem Rel_cg (hR : Rel C b D X) (h : ∀ j k, (j = 0 ∨ 2 ≤ j ∧ j ≤ 9 ∨ j = 11 ∨ j = 12 ∨ j = 14 ∧ (k = 1 ∨ k = 2 ∨ k = 3 ∨ k = 10) ∨ j = 15 ∧ k = 4) → E j k = D j k) : Rel C b E X := by
  unfold Rel at hR ⊢
  have e11 : E 11 = D 11 := funext fun k => h 11 k (by omega)
  have e12 : E 12 = D 12 := funext fun k => h 12 k (by omega)
  rw [e11, e12, h 14 10 (by omega), h 15 4 (by omega), h 14 1 (by omega), h 14 2 (by omega), h 14 3 (by omega)]
  simp only [fun k => h 0 k (by omega), fun k => h 9 k (by omega), fun k => h 2 k (by omega), fun k => h 3 k (by omega), fun k => h 4 k (by omega), fun k => h 5 k (by omega), fun k => h 6 k (by omega), fun k => h 7 k (by omega), fun k => h 8 k (by omega)]
  exact hR
theorem Lk_cg (h : Lk D X) (h5 : E 15 5 = D 15 5) (h6 : E 15 6 = D 15 6) : Lk E X := by
  have e1 : wpN E = wpN D := by unfold wpN; rw [h6]
  have e2 : bsN E = bsN D := by unfold bsN; rw [h5]
  have e3 : fsN E = fsN D := by unfold fsN; rw [e1, e2]
  unfold Lk
  rw [e1, e3]; exact h
theorem Fm_lk (hb : b ≤ 2140) {y : Int32 × Int32} : Fm b X (lkX X b y) := ⟨fun j k h1 h2 h3 h4 h5 => lkX_o (by omega), fun k hk => lkX_o (by omega), fun b' hb' hne e => by
  have : lkX X b y 0 22 = i3 b := by unfold lkX; rw [if_pos ⟨rfl, rfl⟩]
  rw [this] at e
  exact absurd ((i3_eq (by omega) (by omega)).mp e).symm hne⟩
theorem Gd_fm (hb : b ≤ 2140) (h : Gd C b D X Y) : Fm b X Y := by
  rcases h with rfl | rfl
  · exact Fm_rf
  · exact Fm_lk hb
theorem Gd_6 (h : Gd C b D X Y) : Y 95 (b + 6) = X 95 (b + 6) := by
  rcases h with rfl | rfl
  · rfl
  · exact lkX_o (by omega)
theorem InV_survey (hB : CB C) (hV : InV C D) : InV C (surveyT D (C 0 0) (C 0 1)) := by
  refine Or.inr ⟨?_, survT_ok hB hV⟩
  unfold surveyT
  rcases hV with e | ⟨e, -⟩
  · rw [if_pos e]; unfold survS; simp
  · rw [if_neg (by rw [e]; decide)]; exact e
theorem torn_11 : tornT D s 14 11 = 0 := by unfold tornT forgetT; rw [if_neg (by omega), if_neg (by omega), if_pos ⟨rfl, rfl⟩]
theorem putT_11 {s : Nat} : (∀ T, putT nt D nb nw = (none, T) → (takeT D nb nw).1 ≠ none → T 14 11 = 0) ∧ ∀ s T, putT nt D nb nw = (some s, T) → T 14 11 = 0 := by
  unfold putT
  generalize takeT D nb nw = P
  obtain ⟨o', D1⟩ := P
  cases o' with
  | none => exact ⟨fun T _ h => absurd rfl h, fun s T e => by injection e with e1 _; cases e1⟩
  | some s' =>
    simp only
    by_cases c : putA nt D1 nb nw 14 2 = 1
    · rw [if_pos c]
      refine ⟨fun T e _ => ?_, fun s T e => by injection e with e1 _; cases e1⟩
      injection e with _ e
      rw [← e]; exact torn_11
    · rw [if_neg c]
      refine ⟨fun T e _ => (by injection e with e1 _; cases e1), fun s T e => ?_⟩
      injection e with _ e
      rw [← e]
      by_cases c2 : putA nt D1 nb nw 14 2 ≤ 1
      · rw [if_pos c2]; exact putA_11
      · rw [if_neg c2, up_ne (by omega)]; exact putA_11
theorem colR_11 (hB : CB C) (hk : k < C 0 0) (hSv : ∀ s, s < tot C → D 13 s = bz (liveB D s)) (nt : Bool) : ∀ (m i : Nat) (E : xT), i + m = C 0 1 → CI C L D E k i → (colR nt (C 0 0) (C 0 1) k m i E).2 14 11 = 0
  | 0, i, E, hi, h => by
    show up (up (eraseT E (C 0 1) k) 14 11 0) 14 3 (eraseT E (C 0 1) k 14 3 + 1) 14 11 = 0
    rw [up_ne (by omega), up_eq]
  | m + 1, i, E, hi, h => by
    have hBk := blk (nw := C 0 1) hk
    have hT : tot C = C 0 0 * C 0 1 := rfl
    unfold colR
    rw [h.2.2.2.1, hSv _ (by omega)]
    cases hlv : liveB D (k * C 0 1 + i) with
    | false =>
      rw [if_pos (by decide)]
      exact colR_11 hB hk hSv nt m (i + 1) E (by omega) (CI_skip hlv h)
    | true =>
      rw [if_neg (by decide)]
      obtain ⟨hne, hst⟩ := CI_step hB hk (show i < C 0 1 by omega) hlv h nt
      rcases hst with ⟨-, T, e, hT⟩ | ⟨-, s, T, e, hT⟩
      · rw [e]
        obtain ⟨k2, l2, -, e2, -⟩ := take_spot hB h.1.1 h.1.2.2.2.2.2.2.2 hne
        exact (putT_11 (s := 0)).1 T e (by rw [e2]; exact fun q => by cases q)
      · rw [e]
        exact colR_11 hB hk hSv nt m (i + 1) _ (by omega) hT
theorem InV_collect (hB : CB C) (hI : Inv C L D) (hV : InV C D) (nt : Bool) : InV C (collectT nt D (C 0 0) (C 0 1)).2 := by
  unfold collectT
  have hp := fun k E (e : pickT D (C 0 0) (C 0 1) = (some k, E)) => CI_begin hB hI hV e
  have hn : InV C (pickT D (C 0 0) (C 0 1)).2 := by
    unfold pickT
    by_cases c : D 14 1 = 0
    · rw [if_pos c]; exact hV
    · rw [if_neg c]; exact InV_survey hB hV
  generalize pickT D (C 0 0) (C 0 1) = P at hp hn ⊢
  obtain ⟨o', E⟩ := P
  cases o' with
  | none => exact hn
  | some k =>
    obtain ⟨-, hk, hsv, hci⟩ := hp k E rfl
    exact Or.inl (colR_11 hB hk hsv.2.2.1 nt (C 0 1) 0 E (by omega) hci)
theorem t_collects (h : Lay M) (hM : MCfg C X) (hb : b ≤ 2140) (hB : CB C) (hR : Rel C b D X) (hI : Inv C L D) (hV : InV C D) (hL : X 0 22 = i3 b → Lk D X) (hf : 100 < fu) (nt : Bool) :
    ∃ X', F_X12_collects fu 0 (i3 b) (mmb X M) = some ((collectT nt D (C 0 0) (C 0 1)).1, mmb X' M) ∧ Rel C b (collectT nt D (C 0 0) (C 0 1)).2 X' ∧ MCfg C X' ∧ Fm b X X' ∧ (X' 0 22 = i3 b → Lk (collectT nt D (C 0 0) (C 0 1)).2 X') ∧ Pc nt b D (collectT nt D (C 0 0) (C 0 1)).2 X X' := by
  have h6 := hB.1
  obtain ⟨Y, hG, hrun⟩ := t_pickOf (fu := fu) (M := M) h hM hb hB hR hI hV hL hf
  obtain ⟨gR2, gM2, gL2, gE⟩ := Gd_rel hR hM hL hG
  have hp := fun k E (e : pickT D (C 0 0) (C 0 1) = (some k, E)) => CI_begin hB hI hV e
  have hlo : ∀ j k', (j ≠ 10 ∧ j ≠ 13 ∧ (j ≠ 14 ∨ k' ≠ 11 ∧ k' ≠ 14 ∧ k' ≠ 15)) → (pickT D (C 0 0) (C 0 1)).2 j k' = D j k' := by
    intro j k' hj
    unfold pickT
    split
    · rfl
    · exact surveyT_lo hj
  unfold F_X12_collects collectT
  rw [hrun, Option.bind_some]
  generalize pickT D (C 0 0) (C 0 1) = P at hp hlo ⊢
  obtain ⟨o', E⟩ := P
  simp only at hlo ⊢
  cases o' with
  | none =>
    rw [if_neg (show ¬ (0 ≤ on none) from by decide)]
    refine ⟨Y, rfl, Rel_cg gR2 (fun j k hj => hlo j k (by omega)), gM2, Gd_fm hb hG, fun e => Lk_cg (gL2 e) (hlo 15 5 (by omega)) (hlo 15 6 (by omega)), Pc_rf (Gd_6 hG) (hlo 24 0 (by omega))⟩
  | some k =>
    obtain ⟨eS, hk, hsv, hci⟩ := hp k E rfl
    have hRE : Rel C b E Y := Rel_cg gR2 (fun j k hj => hlo j k (by omega))
    have hLE : Y 0 22 = i3 b → Lk E Y := fun e => Lk_cg (gL2 e) (hlo 15 5 (by omega)) (hlo 15 6 (by omega))
    have hIE := hci.1
    rw [if_pos (show 0 ≤ on (some k) from (i3_le (a := 0) (by omega) (by omega)).mpr (Nat.zero_le _))]
    rw [t_looks h gM2 hb hB hRE hIE.2.1 hIE.2.2.1 hIE.2.2.2.1 hIE.2.2.2.2.2.1 hLE hf, Option.bind_some]
    have hR3 : Rel C b E (lkX Y b (i3 (fsN E), i3 (wpN E))) := Rel_95 hRE (fun k => lkX_o (Or.inl (by decide)))
    have hM3 : MCfg C (lkX Y b (i3 (fsN E), i3 (wpN E))) := MCfg_90 gM2 (fun k => lkX_o (Or.inl (by decide)))
    have hL3 : Lk E (lkX Y b (i3 (fsN E), i3 (wpN E))) := Lk_lkX
    have hF3 : Fm b X (lkX Y b (i3 (fsN E), i3 (wpN E))) := Fm_tr (Gd_fm hb hG) (Fm_lk hb)
    have h63 : lkX Y b (i3 (fsN E), i3 (wpN E)) 95 (b + 6) = X 95 (b + 6) := by rw [lkX_o (by omega)]; exact Gd_6 hG
    generalize lkX Y b (i3 (fsN E), i3 (wpN E)) = Z at hR3 hM3 hL3 hF3 h63 ⊢
    have e1 : on (some k) = i3 k := rfl
    rw [e1, t_liveBits h hM3 hb hB hR3 hIE.2.1 hIE.2.2.1 hIE.2.2.2.1 hIE.2.2.2.2.2.1 hL3 hf hk]
    obtain ⟨X', k1, k2, k3, k4, k5, k6⟩ := t_colLoop (M := M) h hb hB hf hk hsv.2.2.1 nt (C 0 1) 0 fu E Z (by omega) (by have := hB.2.1; omega) hci hR3 hM3
    refine ⟨X', k1, k2, k3, Fm_tr hF3 k4, fun e => ?_, Pc_tr (Pc_rf h63 (hlo 24 0 (by omega))) k6⟩
    rw [k5] at e
    exact absurd e (neg_i3 (by omega))
end
