/-! ===== a deed that notes nothing leaves the ends alone ===== -/
def KE (E D : xT) : Prop := ∀ j k, 20 ≤ j → j ≤ 24 → E j k = D j k
section
variable {M : xM} {D E X Y Z T N X' E' E0 Tc : xT} {C : xC} {R G G' : Nat → Int32} {fu b d L L' s o t k n m i j p q f l w nb nw a at' r g c e B K P Q : Nat} {x y z v u : Int32} {nt : Bool}
theorem KE_rf : KE D D := fun _ _ _ _ => rfl
theorem KE_tr (h : KE E D) (h2 : KE T E) : KE T D := fun j k a b => (h2 j k a b).trans (h j k a b)
theorem KE_put (hO : Ok nb nw D) : KE (putT false D nb nw).2 D := by
  have hS := (takeT_spec hO).2.1
  unfold putT
  generalize takeT D nb nw = t at hS
  obtain ⟨o, D1⟩ := t
  intro j k h1 h2
  have q := hS j k (by omega)
  cases o with
  | none => exact q
  | some s =>
    have qa : putA false D1 nb nw j k = D1 j k := by unfold putA; rw [if_neg (by decide)]; exact up_ne (by omega)
    simp only
    by_cases c : putA false D1 nb nw 14 2 = 1
    · rw [if_pos c]
      show tornT (putA false D1 nb nw) s j k = D j k
      unfold tornT
      rw [forgetT_lo (by omega), up_ne (by omega), up_ne (by omega), fillT_lo (by omega), qa]
      exact q
    · rw [if_neg c]
      by_cases c2 : putA false D1 nb nw 14 2 ≤ 1
      · rw [if_pos c2]; exact qa.trans q
      · rw [if_neg c2]; exact ((up_ne (by omega)).trans qa).trans q
theorem KE_up (h : j < 20 ∨ 24 < j) : KE (up D j k v) D := fun j' k' h1 h2 => up_ne (by omega)
theorem KE_putNew (hO : Ok nb nw (up D 14 10 (D 14 10 + 1))) : KE (putNewT false D nb nw x y z v).2 D := by
  have h := KE_tr (KE_up (D := D) (j := 14) (k := 10) (v := D 14 10 + 1) (by omega)) (KE_put hO)
  unfold putNewT
  generalize putT false (up D 14 10 (D 14 10 + 1)) nb nw = t at h
  obtain ⟨o, E1⟩ := t
  cases o with
  | none => exact h
  | some s => exact fun j k h1 h2 => (fillT_lo (by omega)).trans (h j k h1 h2)
theorem KE_colR (hk : k < nb) (hw : d ≠ 2) : ∀ m i E, i + m = nw → Okd d nb nw E → KE (colR false nb nw k m i E).2 E := by
  intro m
  induction m with
  | zero =>
    intro i E hi hO j' k' h1 h2
    unfold colR
    show up (up (eraseT E nw k) 14 11 0) 14 3 (eraseT E nw k 14 3 + 1) j' k' = E j' k'
    rw [up_ne (by omega), up_ne (by omega), erase_up (by omega)]
  | succ m ih =>
    intro i E hi hO
    have hB := blk (nw := nw) hk
    unfold colR
    by_cases c : E 13 (k * nw + i) = 0
    · rw [if_pos c]; exact ih (i + 1) E (by omega) hO
    · rw [if_neg c]
      have hP := putT_ok (nt := false) hO
      have hK := KE_put hO.1
      generalize putT false E nb nw = p at hP hK ⊢
      obtain ⟨o, E1⟩ := p
      cases o with
      | none => exact hK
      | some t =>
        have := ih (i + 1) (copyT E1 (k * nw + i) t) (by omega) (Okd_copy hP.1 (by omega))
        exact KE_tr hK (KE_tr (fun j' k' h1 h2 => copyT_lo (by omega)) this)
theorem KE_pick (hO : Okd d nb nw D) : KE (pickT D nb nw).2 D := by
  intro j k h1 h2
  unfold pickT
  split
  · rfl
  · exact surveyT_lo (by omega)
theorem KE_collect (hO : Okd d nb nw D) (hd : d ≠ 2) : KE (collectT false D nb nw).2 D := by
  have hP := pickT_spec hO
  have hK := KE_pick hO
  unfold collectT
  generalize pickT D nb nw = p at hP hK ⊢
  obtain ⟨o, E1⟩ := p
  cases o with
  | none => exact hK
  | some b => exact KE_tr hK (KE_colR (hP.2.1 b rfl) hd nw 0 E1 (by omega) hP.1)
theorem KE_comR (hB : CB C) (hn : n ≤ 6) (hL : L + n < 1000000) : ∀ m i at' E, i + m = n → at' ≤ 20 → CMI C L D E n i → KE (comR false (C 0 0) (C 0 1) n m i at' E).2 E := by
  intro m
  induction m with
  | zero =>
    intro i at' E hi hat h j' k' h1 h2
    unfold comR
    show up (up (up E 15 5 (E 14 10)) 15 6 (i3 n)) 14 11 0 j' k' = E j' k'
    rw [up_ne (by omega), up_ne (by omega), up_ne (by omega)]
  | succ m ih =>
    intro i at' E hi hat h
    obtain ⟨h0, he0, hst⟩ := CMI_step hB h (show i < n by omega) hn hL hat false
    have hK := KE_tr (KE_up (D := E) (j := 14) (k := 10) (v := E 14 10 + 1) (by omega)) (KE_put h0.1)
    unfold comR
    rcases hst with ⟨q, T, q1, -⟩ | ⟨-, s', T', q1, q2, q3, q4⟩
    · rw [q1] at hK ⊢; exact hK
    · rw [q1] at hK ⊢
      have sp := filR_spec s' (20 - at') 0 at' T' (by omega) (by omega)
      refine KE_tr hK (KE_tr (fun j' k' h1 h2 => ?_) (ih (i + 1) _ _ (by omega) q4 q3))
      show fillT (filR s' (20 - at') 0 at' T').2.2 s' 3 ((filR s' (20 - at') 0 at' T').2.2 14 10) (i3 i) (i3 n) (i3 (filR s' (20 - at') 0 at' T').1) j' k' = T' j' k'
      rw [fillT_lo (by omega), sp.2.2.2.1 j' k' (by omega)]
theorem KE_commit (hB : CB C) (hI : Inv C L D) (hL : L + 6 < 1000000) : KE (commitT false D (C 0 0) (C 0 1)).2 D := by
  have hp := partsN_le D
  unfold commitT
  by_cases c1 : D 14 1 = 0
  · rw [if_pos c1]; exact KE_rf
  rw [if_neg c1]
  by_cases c3 : i3 (partsN D) ≤ D 15 3
  · rw [if_pos c3]
    exact KE_comR hB hp (by omega) (partsN D) 0 0 D (by omega) (by omega) (CMI_begin hB hI hp c3)
  · rw [if_neg c3]; exact KE_rf
theorem KE_wants : KE (wantsT C R a D).2 D := fun j k h1 h2 => wantsT_lo (by omega)
theorem KE_first (hI : Inv C L D) : KE (firstT2 C R a false D).2 D := by
  unfold firstT2
  split
  · exact KE_tr KE_wants (KE_collect (Okd3 (Inv_wants hI)) (by decide))
  · exact KE_wants
theorem KE_wriR (hB : CB C) (hL : L + 8 < 1000000) (hr2 : r ≤ 36) (hf : f < C 0 3) (hp : p < C 2 f) (hv : u = i3 g) (hg : g ≤ 255) :
    ∀ m i E, i + m ≤ 2 → 1 ≤ i + m → i + m ≤ r → WI C L E0 E f p r i → KE (wriR C false f p u m E).2 E := by
  intro m
  induction m with
  | zero =>
    intro i E hi hi1 hir hw
    have hm := WI_map hB hw (by omega) hf hp
    have e1 : up (up E 9 (f * 4 + p) (E 14 10)) 14 11 0 = mapT E (f * 4 + p) := rfl
    have hk : KE (mapT E (f * 4 + p)) E := fun j k h1 h2 => mapT_lo (by omega)
    have hc := KE_tr hk (KE_commit hB hm (by omega))
    unfold wriR wriE
    simp only [e1]
    by_cases c3 : C 1 f = 3
    · rw [if_pos c3]
      split
      · exact hc
      · exact hc
    · rw [if_neg c3]; exact hk
  | succ m ih =>
    intro i E hi hi1 hir hw
    have hK := KE_putNew (x := 1) (y := i3 f) (z := i3 p) (v := u) (Inv_last hw.1 (by omega)).1
    unfold wriR
    rcases WI_step hB hw hL (by omega) (by omega) hr2 hf hp hv hg false with ⟨e1, -⟩ | ⟨e1, e2⟩
    · rw [e1, if_neg (by decide)]; exact hK
    · rw [e1, if_pos rfl]
      exact KE_tr hK (ih (i + 1) _ (by omega) (by omega) (by omega) e2)
theorem KE_write (hB : CB C) (hI : Inv C L D) (hV : InV C D) (hL : L + 8 < 1000000) : KE (writeT C R a false D x y v).2 D := by
  have hF := Inv_first (R := R) (a := a) hB hI hV false
  have hK := KE_first (R := R) (a := a) hI
  unfold writeT
  by_cases hcnd : (mayB C D x y && (! decide (v < 0) && decide (v ≤ 255))) = true
  · rw [if_pos hcnd]
    simp only [Bool.and_eq_true, Bool.not_eq_true', decide_eq_false_iff_not, decide_eq_true_eq] at hcnd
    obtain ⟨hm, hv0, hv1⟩ := hcnd
    obtain ⟨f, p, hf, hp, rfl, rfl, h1, h12⟩ := mayB_is hB hm
    obtain ⟨g, hg, rfl⟩ := i3_of (Int32.not_lt.mp hv0)
    have hg2 := (i3_le (b := 255) hg (by omega)).mp hv1
    have c5 := hB.2.2.2.1
    have c4 := (hB.2.2.2.2.2 f hf).2.2
    have hp1 := fun q => firstT2_141 (R := R) (a := a) (nt := false) (Okd3 hI) q
    rw [xi_i3 (by omega), xi_i3 (by omega)]
    generalize firstT2 C R a false D = F at *
    cases ef : F.1 with
    | true => rw [if_pos rfl]; exact hK
    | false =>
      rw [if_neg (by decide)]
      unfold wriB
      cases hr : roomB C F.2 f p with
      | false => rw [if_neg (by decide)]; exact hK
      | true =>
        rw [if_pos rfl]
        obtain ⟨r1, r2⟩ := room_is hB hF.1 hr
        have hw := WI_begin (f := f) (p := p) hB hF.1 (by rw [hp1 ef]; exact h1)
        have hn : (if C 1 f = 2 then 2 else 1) ≤ eraA F.2 (C 0 1) (C 0 0) := by
          refine Nat.le_trans ?_ r2
          unfold roomN
          split
          · omega
          · split <;> omega
        exact KE_tr hK (KE_wriR hB hL r1 hf hp rfl hg2 (if C 1 f = 2 then 2 else 1) 0 F.2 (by split <;> omega) (by split <;> omega) (by rw [Nat.zero_add]; exact hn) hw)
  · rw [if_neg hcnd]; exact KE_rf
theorem KE_remove (hB : CB C) (hI : Inv C L D) (hV : InV C D) (hL : L + 8 < 1000000) : KE (removeT C R a false D x).2 D := by
  have hF := Inv_first (R := R) (a := a) hB hI hV false
  have hK := KE_first (R := R) (a := a) hI
  unfold removeT
  split
  · generalize firstT2 C R a false D = F at *
    cases ef : F.1 with
    | true => rw [if_pos rfl]; exact hK
    | false =>
      rw [if_neg (by decide)]
      unfold remB
      have hK2 := KE_putNew (x := 2) (y := i3 (xi x)) (z := -1) (v := -1) (Inv_last hF.1 (by omega)).1
      split
      · simp only
        split
        · split
          · exact KE_tr hK (KE_tr hK2 (fun j k h1 h2 => unmapT_lo (by omega)))
          · exact KE_tr hK (KE_tr hK2 (KE_up (by omega)))
        · exact KE_tr hK hK2
      · exact hK
  · exact KE_rf
theorem KE_open : KE (openT C D x).2 D := fun j k h1 h2 => open_lo (by omega)
theorem KE_close : KE (closeT C D x).2 D := fun j k h1 h2 => close_lo (by omega) (by omega) (by omega) (by omega)
theorem KE_mount : KE (mountT D nb nw) D := by
  intro j k h1 h2
  unfold mountT
  rw [surveyT_lo (by omega), up_ne (by omega), up_ne (by omega), up_ne (by omega), up_ne (by omega)]
  unfold cpT
  rw [if_neg (by omega), forgetT_lo (by omega), findT_lo (by omega)]
theorem KE_did (hB : CB C) (hI : Inv C L D) (hV : InV C D) (hL : L + 8 < 1000000) : KE (didT C R a false D k x y v).2 D := by
  unfold didT
  split
  · exact KE_write hB hI hV hL
  split
  · exact KE_remove hB hI hV hL
  split
  · exact KE_open
  split
  · exact KE_close
  split
  · exact KE_commit hB hI (by omega)
  · exact KE_collect (Okd3 hI) (by decide)
end
