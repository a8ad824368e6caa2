/-! ===== the collect that comes first, in the reference ===== -/
/-- a section of the reference while only looked at: nothing but scratch has changed -/
def Sg (C : xC) (R : Nat → Int32) (b : Nat) (D X Y : xT) : Prop := Rel C b D Y ∧ MCfg C Y ∧ RuleAs C R Y ∧ (Y 0 22 = i3 b → Lk D Y) ∧ Fm b X Y ∧ Y 95 (b + 6) = X 95 (b + 6)
section
variable {M : xM} {D E X Y Z T P X' E' E'' X'' : xT} {C : xC} {R N : Nat → Int32} {fu b d L L' s o t k n m i j p q f l w nb nw a at' : Nat} {x y z v u c : Int32} {nt : Bool}
theorem Inv_wants (hI : Inv C L D) : Inv C L (wantsT C R a D).2 := Inv_same hI (fun j k h1 h2 h3 h4 => wantsT_lo (by omega))
theorem wants_14 (h4 : ¬ C 0 4 = 0) (hk : j < 25) : (wantsT C R a D).2 j k = surveyT D (C 0 0) (C 0 1) j k := by
  unfold wantsT
  rw [if_neg h4]
  show (valF a R (factT a (surveyT D (C 0 0) (C 0 1)) _ _ _ _) (C 0 4)).2 j k = _
  rw [valF_lo hk, factT_lo hk]
theorem same_25 (he : ∀ j k, j < 25 → E j k = D j k) : liveB E = liveB D ∧ jourB E = jourB D := by
  have e2 : E 2 = D 2 := funext fun k => he 2 k (by omega)
  have e3 : E 3 = D 3 := funext fun k => he 3 k (by omega)
  have e4 : E 4 = D 4 := funext fun k => he 4 k (by omega)
  have e5 : E 5 = D 5 := funext fun k => he 5 k (by omega)
  have e9 : E 9 = D 9 := funext fun k => he 9 k (by omega)
  have e15 : E 15 = D 15 := funext fun k => he 15 k (by omega)
  constructor
  · funext s
    unfold liveB isWholeT isJourT mapToT isLeastT
    rw [e2, e3, e4, e5, e9, e15]
  · funext s
    unfold jourB isJourT isLeastT
    rw [e2, e3, e15]
theorem survOK_cg (h : survOK C D) (he : ∀ j k, j < 25 → E j k = D j k) : survOK C E := by
  obtain ⟨hl, hj⟩ := same_25 he
  unfold survOK at h ⊢
  rw [hl, hj, he 14 14 (by omega), he 14 15 (by omega)]
  refine ⟨h.1, h.2.1, fun s hs => ?_, fun k hk => ?_⟩
  · rw [he 13 s (by omega)]; exact h.2.2.1 s hs
  · rw [he 10 k (by omega)]; exact h.2.2.2 k hk
theorem InV_wants (hB : CB C) (hV : InV C D) : InV C (wantsT C R a D).2 := by
  by_cases h4 : C 0 4 = 0
  · unfold wantsT; rw [if_pos h4]; exact hV
  · have hs := InV_survey hB hV
    rcases hs with e | ⟨e, hs⟩
    · exact Or.inl ((wants_14 h4 (by omega)).trans e)
    · exact Or.inr ⟨(wants_14 h4 (by omega)).trans e, survOK_cg hs (fun j k hj => wants_14 h4 hj)⟩
theorem Sg_rf (hR : Rel C b D X) (hM : MCfg C X) (hU : RuleAs C R X) (hL : X 0 22 = i3 b → Lk D X) : Sg C R b D X X := ⟨hR, hM, hU, hL, Fm_rf, rfl⟩
theorem Fm_o (h : ∀ j k, j ≠ 93 → j ≠ 94 → Y j k = X j k) : Fm b X Y := ⟨fun j k _ h3 h4 _ _ => h j k h3 h4, fun k _ => h 95 k (by decide) (by decide), fun b' _ _ e => by rw [h 0 22 (by decide) (by decide)] at e; exact ⟨e, h 0 20 (by decide) (by decide), h 0 21 (by decide) (by decide)⟩⟩
theorem Sg_o (hS : Sg C R b D X Y) (h : ∀ j k, j ≠ 93 → j ≠ 94 → Z j k = Y j k) : Sg C R b D X Z := by
  obtain ⟨h1, h2, h3, h4, h5, h6⟩ := hS
  refine ⟨Rel_95 h1 (fun k => h 95 k (by decide) (by decide)), MCfg_90 h2 (fun k => h 90 k (by decide) (by decide)), RuleAs_fm h3 (h 90 4 (by decide) (by decide)) (fun k => h 91 k (by decide) (by decide)), fun e => ?_, Fm_tr h5 (Fm_o h), (h 95 _ (by decide) (by decide)).trans h6⟩
  rw [h 0 22 (by decide) (by decide)] at e
  have := h4 e
  exact ⟨(h 0 20 (by decide) (by decide)).trans this.1, (h 0 21 (by decide) (by decide)).trans this.2⟩
theorem Sg_lk (hb : b ≤ 2140) (hS : Sg C R b D X Y) : Sg C R b D X (lkX Y b (i3 (fsN D), i3 (wpN D))) := by
  obtain ⟨h1, h2, h3, h4, h5, h6⟩ := hS
  exact ⟨Rel_95 h1 (fun k => lkX_o (Or.inl (by decide))), MCfg_90 h2 (fun k => lkX_o (Or.inl (by decide))), RuleAs_fm h3 (lkX_o (Or.inl (by decide))) (fun k => lkX_o (Or.inl (by decide))), fun _ => Lk_lkX, Fm_tr h5 (Fm_lk hb), (lkX_o (Or.inl (by decide))).trans h6⟩
theorem dirty_all (hB : CB C) (hI : Inv C L D) (hV : InV C D) : surveyT D (C 0 0) (C 0 1) 15 2 - surveyT D (C 0 0) (C 0 1) 15 3 - surveyT D (C 0 0) (C 0 1) 14 14 = i3 (cnt (tlB D 2) (tot C)) := by
  have hs := tl_sum D 0 (tot C)
  simp only [Nat.zero_add] at hs
  have e1 : tlB D 1 = liveB D := by funext s; unfold tlB; simp
  have hT : tot C = C 0 0 * C 0 1 := rfl
  have e0 := eraA_cnt (D := D) (nw := C 0 1) (C 0 0)
  rw [← hT] at e0
  have e2 : cnt (fun i => tlB D 1 i) (tot C) = cnt (liveB D) (tot C) := by rw [← e1]
  have e3 : cnt (fun i => tlB D 0 i) (tot C) = cnt (tlB D 0) (tot C) := rfl
  have e4 : cnt (fun i => tlB D 2 i) (tot C) = cnt (tlB D 2) (tot C) := rfl
  rw [surv_14 hB hV, surveyT_lo (by omega), surveyT_lo (by omega), hI.1.2.2.2.2.1, hI.2.2.2.2.2.2.2.1, ← hT, e0, i3_sub (by omega), i3_sub (by omega)]
  congr 1; omega
end
