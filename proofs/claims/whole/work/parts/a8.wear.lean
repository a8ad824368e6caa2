/-! ===== how often blocks were erased ===== -/
def ZE (E D : xT) : Prop := ∀ j k, j = 0 → E j k = D j k
section
variable {M : xM} {D E X Y Z T N X' E' E0 Tc : xT} {C : xC} {R G G' : Nat → Int32} {fu b d L L' s o t k n m i j p q f l w nb nw a at' r g c e B K P Q : Nat} {x y z v u : Int32} {nt : Bool}
theorem ZE_rf : ZE D D := fun _ _ _ => rfl
theorem ZE_tr (h : ZE E D) (h2 : ZE T E) : ZE T D := fun j k a => (h2 j k a).trans (h j k a)
theorem ZE_put (hO : Ok nb nw D) : ZE (putT nt D nb nw).2 D := by
  have hS := (takeT_spec hO).2.1
  unfold putT
  generalize takeT D nb nw = t at hS
  obtain ⟨o, D1⟩ := t
  intro j k h1
  have q := hS j k (by omega)
  cases o with
  | none => exact q
  | some s =>
    have qa : putA nt D1 nb nw j k = D1 j k := putA_lo (by omega)
    simp only
    by_cases c : putA nt D1 nb nw 14 2 = 1
    · rw [if_pos c]
      show tornT (putA nt D1 nb nw) s j k = D j k
      unfold tornT
      rw [forgetT_lo (by omega), up_ne (by omega), up_ne (by omega), fillT_lo (by omega), qa]
      exact q
    · rw [if_neg c]
      by_cases c2 : putA nt D1 nb nw 14 2 ≤ 1
      · rw [if_pos c2]; exact qa.trans q
      · rw [if_neg c2]; exact ((up_ne (by omega)).trans qa).trans q
theorem ZE_up (h : j ≠ 0) : ZE (up D j k v) D := fun j' k' h1 => up_ne (by omega)
theorem ZE_putNew (hO : Ok nb nw (up D 14 10 (D 14 10 + 1))) : ZE (putNewT nt D nb nw x y z v).2 D := by
  have h := ZE_tr (ZE_up (D := D) (j := 14) (k := 10) (v := D 14 10 + 1) (by omega)) (ZE_put (nt := nt) hO)
  unfold putNewT
  generalize putT nt (up D 14 10 (D 14 10 + 1)) nb nw = t at h
  obtain ⟨o, E1⟩ := t
  cases o with
  | none => exact h
  | some s => exact fun j k h1 => (fillT_lo (by omega)).trans (h j k h1)
/-- one block more, at most -/
def Z1 (E D : xT) : Prop := ∀ k, E 0 k = D 0 k ∨ E 0 k = D 0 k + 1
theorem Z1_l (h : ZE E D) (h2 : Z1 T E) : Z1 T D := fun k => by rw [← h 0 k rfl]; exact h2 k
theorem Z1_r (h : Z1 E D) (h2 : ZE T E) : Z1 T D := fun k => by rw [h2 0 k rfl]; exact h k
theorem Z1_of (h : ZE E D) : Z1 E D := fun k => Or.inl (h 0 k rfl)
theorem Z1_erase : Z1 (up (up (eraseT E nw k) 14 11 0) 14 3 v) E := by
  intro m
  rw [up_ne (by omega), up_ne (by omega)]
  unfold eraseT
  simp only [up_at, clrT_hi _ _ _ _ _ (Or.inl rfl)]
  by_cases c : m = k
  · subst c
    right
    simp
  · left
    simp [c]
theorem Z1_colR (hk : k < nb) (hw : d ≠ 2 ∨ nt = nt) : ∀ m i E, i + m = nw → Okd d nb nw E → Z1 (colR nt nb nw k m i E).2 E := by
  intro m
  induction m with
  | zero =>
    intro i E hi hO
    unfold colR
    exact Z1_erase
  | succ m ih =>
    intro i E hi hO
    have hB := blk (nw := nw) hk
    unfold colR
    by_cases c : E 13 (k * nw + i) = 0
    · rw [if_pos c]; exact ih (i + 1) E (by omega) hO
    · rw [if_neg c]
      have hP := putT_ok (nt := nt) hO
      have hK := ZE_put (nt := nt) hO.1
      generalize putT nt E nb nw = p at hP hK ⊢
      obtain ⟨o, E1⟩ := p
      cases o with
      | none => exact Z1_of hK
      | some t =>
        have := ih (i + 1) (copyT E1 (k * nw + i) t) (by omega) (Okd_copy hP.1 (by omega))
        exact Z1_l hK (Z1_l (fun j' k' h1 => copyT_lo (by omega)) this)
theorem ZE_pick (hO : Okd d nb nw D) : ZE (pickT D nb nw).2 D := by
  intro j k h1
  unfold pickT
  split
  · rfl
  · exact surveyT_lo (by omega)
theorem Z1_collect (hO : Okd d nb nw D) : Z1 (collectT nt D nb nw).2 D := by
  have hP := pickT_spec hO
  have hK := ZE_pick hO
  unfold collectT
  generalize pickT D nb nw = p at hP hK ⊢
  obtain ⟨o, E1⟩ := p
  cases o with
  | none => exact Z1_of hK
  | some b => exact Z1_l hK (Z1_colR (hP.2.1 b rfl) (Or.inr rfl) nw 0 E1 (by omega) hP.1)
theorem ZE_comR (hB : CB C) (hn : n ≤ 6) (hL : L + n < 1000000) : ∀ m i at' E, i + m = n → at' ≤ 20 → CMI C L D E n i → ZE (comR nt (C 0 0) (C 0 1) n m i at' E).2 E := by
  intro m
  induction m with
  | zero =>
    intro i at' E hi hat h j' k' h1
    unfold comR
    show up (up (up E 15 5 (E 14 10)) 15 6 (i3 n)) 14 11 0 j' k' = E j' k'
    rw [up_ne (by omega), up_ne (by omega), up_ne (by omega)]
  | succ m ih =>
    intro i at' E hi hat h
    obtain ⟨h0, he0, hst⟩ := CMI_step hB h (show i < n by omega) hn hL hat nt
    have hK := ZE_tr (ZE_up (D := E) (j := 14) (k := 10) (v := E 14 10 + 1) (by omega)) (ZE_put (nt := nt) h0.1)
    unfold comR
    rcases hst with ⟨q, T, q1, -⟩ | ⟨-, s', T', q1, q2, q3, q4⟩
    · rw [q1] at hK ⊢; exact hK
    · rw [q1] at hK ⊢
      have sp := filR_spec s' (20 - at') 0 at' T' (by omega) (by omega)
      refine ZE_tr hK (ZE_tr (fun j' k' h1 => ?_) (ih (i + 1) _ _ (by omega) q4 q3))
      show fillT (filR s' (20 - at') 0 at' T').2.2 s' 3 ((filR s' (20 - at') 0 at' T').2.2 14 10) (i3 i) (i3 n) (i3 (filR s' (20 - at') 0 at' T').1) j' k' = T' j' k'
      rw [fillT_lo (by omega), sp.2.2.2.1 j' k' (by omega)]
theorem ZE_commit (hB : CB C) (hI : Inv C L D) (hL : L + 6 < 1000000) : ZE (commitT nt D (C 0 0) (C 0 1)).2 D := by
  have hp := partsN_le D
  unfold commitT
  by_cases c1 : D 14 1 = 0
  · rw [if_pos c1]; exact ZE_rf
  rw [if_neg c1]
  by_cases c3 : i3 (partsN D) ≤ D 15 3
  · rw [if_pos c3]
    exact ZE_comR hB hp (by omega) (partsN D) 0 0 D (by omega) (by omega) (CMI_begin hB hI hp c3)
  · rw [if_neg c3]; exact ZE_rf
theorem ZE_wants : ZE (wantsT C R a D).2 D := fun j k h1 => wantsT_lo (by omega)
theorem Z1_first (hI : Inv C L D) : Z1 (firstT2 C R a nt D).2 D := by
  unfold firstT2
  split
  · exact Z1_l ZE_wants (Z1_collect (Okd3 (Inv_wants hI)))
  · exact Z1_of ZE_wants
theorem ZE_wriR (hB : CB C) (hL : L + 8 < 1000000) (hr2 : r ≤ 36) (hf : f < C 0 3) (hp : p < C 2 f) (hv : u = i3 g) (hg : g ≤ 255) :
    ∀ m i E, i + m ≤ 2 → 1 ≤ i + m → i + m ≤ r → WI C L E0 E f p r i → ZE (wriR C nt f p u m E).2 E := by
  intro m
  induction m with
  | zero =>
    intro i E hi hi1 hir hw
    have hm := WI_map hB hw (by omega) hf hp
    have e1 : up (up E 9 (f * 4 + p) (E 14 10)) 14 11 0 = mapT E (f * 4 + p) := rfl
    have hk : ZE (mapT E (f * 4 + p)) E := fun j k h1 => mapT_lo (by omega)
    have hc := ZE_tr hk (ZE_commit (nt := nt) hB hm (by omega))
    unfold wriR wriE
    simp only [e1]
    by_cases c3 : C 1 f = 3
    · rw [if_pos c3]
      split
      · exact hc
      · exact hc
    · rw [if_neg c3]; exact hk
  | succ m ih =>
    intro i E hi hi1 hir hw
    have hK := ZE_putNew (nt := nt) (x := 1) (y := i3 f) (z := i3 p) (v := u) (Inv_last hw.1 (by omega)).1
    unfold wriR
    rcases WI_step hB hw hL (by omega) (by omega) hr2 hf hp hv hg nt with ⟨e1, -⟩ | ⟨e1, e2⟩
    · rw [e1, if_neg (by decide)]; exact hK
    · rw [e1, if_pos rfl]
      exact ZE_tr hK (ih (i + 1) _ (by omega) (by omega) (by omega) e2)
theorem Z1_write (hB : CB C) (hI : Inv C L D) (hV : InV C D) (hL : L + 8 < 1000000) : Z1 (writeT C R a nt D x y v).2 D := by
  have hF := Inv_first (R := R) (a := a) hB hI hV nt
  have hK := Z1_first (nt := nt) (R := R) (a := a) hI
  unfold writeT
  by_cases hcnd : (mayB C D x y && (! decide (v < 0) && decide (v ≤ 255))) = true
  · rw [if_pos hcnd]
    simp only [Bool.and_eq_true, Bool.not_eq_true', decide_eq_false_iff_not, decide_eq_true_eq] at hcnd
    obtain ⟨hm, hv0, hv1⟩ := hcnd
    obtain ⟨f, p, hf, hp, rfl, rfl, h1, h12⟩ := mayB_is hB hm
    obtain ⟨g, hg, rfl⟩ := i3_of (Int32.not_lt.mp hv0)
    have hg2 := (i3_le (b := 255) hg (by omega)).mp hv1
    have c5 := hB.2.2.2.1
    have c4 := (hB.2.2.2.2.2 f hf).2.2
    have hp1 := fun q => firstT2_141 (R := R) (a := a) (nt := nt) (Okd3 hI) q
    rw [xi_i3 (by omega), xi_i3 (by omega)]
    generalize firstT2 C R a nt D = F at *
    cases ef : F.1 with
    | true => rw [if_pos rfl]; exact hK
    | false =>
      rw [if_neg (by decide)]
      unfold wriB
      cases hr : roomB C F.2 f p with
      | false => rw [if_neg (by decide)]; exact hK
      | true =>
        rw [if_pos rfl]
        obtain ⟨r1, r2⟩ := room_is hB hF.1 hr
        have hw := WI_begin (f := f) (p := p) hB hF.1 (by rw [hp1 ef]; exact h1)
        have hn : (if C 1 f = 2 then 2 else 1) ≤ eraA F.2 (C 0 1) (C 0 0) := by
          refine Nat.le_trans ?_ r2
          unfold roomN
          split
          · omega
          · split <;> omega
        exact Z1_r hK (ZE_wriR hB hL r1 hf hp rfl hg2 (if C 1 f = 2 then 2 else 1) 0 F.2 (by split <;> omega) (by split <;> omega) (by rw [Nat.zero_add]; exact hn) hw)
  · rw [if_neg hcnd]; exact Z1_of ZE_rf
theorem Z1_remove (hB : CB C) (hI : Inv C L D) (hV : InV C D) (hL : L + 8 < 1000000) : Z1 (removeT C R a nt D x).2 D := by
  have hF := Inv_first (R := R) (a := a) hB hI hV nt
  have hK := Z1_first (nt := nt) (R := R) (a := a) hI
  unfold removeT
  split
  · generalize firstT2 C R a nt D = F at *
    cases ef : F.1 with
    | true => rw [if_pos rfl]; exact hK
    | false =>
      rw [if_neg (by decide)]
      unfold remB
      have hK2 := ZE_putNew (nt := nt) (x := 2) (y := i3 (xi x)) (z := -1) (v := -1) (Inv_last hF.1 (by omega)).1
      split
      · simp only
        split
        · split
          · exact Z1_r hK (ZE_tr hK2 (fun j k h1 => unmapT_lo (by omega)))
          · exact Z1_r hK (ZE_tr hK2 (ZE_up (by omega)))
        · exact Z1_r hK hK2
      · exact hK
  · exact Z1_of ZE_rf
theorem ZE_open : ZE (openT C D x).2 D := fun j k h1 => open_lo (by omega)
theorem ZE_close : ZE (closeT C D x).2 D := fun j k h1 => close_lo (by omega) (by omega) (by omega) (by omega)
theorem ZE_mount : ZE (mountT D nb nw) D := by
  intro j k h1
  unfold mountT
  rw [surveyT_lo (by omega), up_ne (by omega), up_ne (by omega), up_ne (by omega), up_ne (by omega)]
  unfold cpT
  rw [if_neg (by omega), forgetT_lo (by omega), findT_lo (by omega)]
end
