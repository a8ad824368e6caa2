/-! ===== where no cut is set, no deed is cut: what lines answer on both sides ===== -/
/-- an answer of a deed that was not cut -/
def okA (r : Int32) : Prop := r = -1 ∨ ¬ r < 0
section
variable {M : xM} {D E X Y Z T N X' E' E0 Tc : xT} {C : xC} {R G G' : Nat → Int32} {fu b d L L' s o t k n m i j p q f l w nb nw a at' r g c e B K P Q : Nat} {x y z v u : Int32} {nt : Bool} {W : Nat → Nat} {V : Nat → Nat → Int32}
theorem okA_i3 (h : n < 2147483648) : okA (i3 n) := Or.inr (fun q => (i3_nl h).mp q)
theorem okA_neg (h : okA v) : (! decide (v < 0)) = ! decide (v = -1) := by
  rcases h with h | h
  · rw [h]; decide
  · have : ¬ v = -1 := fun q => h (by rw [q]; decide)
    rw [decide_eq_false h, decide_eq_false this]
theorem put_142 (hO : Ok nb nw D) (h2 : D 14 2 = 0) (e : putT nt D nb nw = (some s, T)) : T 14 2 = 0 := by
  have hS := takeT_spec hO
  unfold putT at e
  generalize takeT D nb nw = t at hS e
  obtain ⟨o, D1⟩ := t
  cases o with
  | none => cases e
  | some x =>
    simp only at e
    have h3 : putA nt D1 nb nw 14 2 = 0 := (putA_lo (by omega)).trans ((hS.2.1 14 2 (by omega)).trans h2)
    rw [h3, if_neg (by decide), if_pos (by decide)] at e
    injection e with e1 e2
    rw [← e2]; exact h3
theorem putNew_142 (hO : Ok nb nw (up D 14 10 (D 14 10 + 1))) (h2 : D 14 2 = 0) (e : (putNewT nt D nb nw x y z v).1 = true) : (putNewT nt D nb nw x y z v).2 14 2 = 0 := by
  have h := fun s T => put_142 (nt := nt) (s := s) (T := T) hO (show up D 14 10 (D 14 10 + 1) 14 2 = 0 by rw [up_ne (by omega)]; exact h2)
  unfold putNewT at e ⊢
  generalize putT nt (up D 14 10 (D 14 10 + 1)) nb nw = t at h e ⊢
  obtain ⟨o, E1⟩ := t
  cases o with
  | none => cases e
  | some s =>
    show fillT E1 s x (E1 14 10) y z v 14 2 = 0
    rw [fillT_lo (by omega)]
    exact h s E1 rfl
theorem nd_z1 : up (up (eraseT E nw k) 14 11 0) 14 3 v 14 2 = E 14 2 := by rw [up_ne (by omega), up_ne (by omega), erase_up (by omega)]
theorem nd_z2 : up (up (up E 15 5 v) 15 6 u) 14 11 0 14 2 = E 14 2 := by rw [up_ne (by omega), up_ne (by omega), up_ne (by omega)]
theorem nd_colR (hB : CB C) (hk : k < C 0 0) (hSv : ∀ s, s < tot C → D 13 s = bz (liveB D s)) : ∀ m i E, i + m = C 0 1 → CI C L D E k i → E 14 2 = 0 →
    okA (colR nt (C 0 0) (C 0 1) k m i E).1 ∧ (colR nt (C 0 0) (C 0 1) k m i E).2 14 2 = 0 := by
  have h6 := hB.1
  intro m
  induction m with
  | zero =>
    intro i E hi h h2
    unfold colR
    exact ⟨okA_i3 (by omega), (nd_z1 (E := E) (nw := C 0 1) (k := k) (v := eraseT E (C 0 1) k 14 3 + 1)).trans h2⟩
  | succ m ih =>
    intro i E hi h h2
    have hBk := blk (nw := C 0 1) hk
    have hT : tot C = C 0 0 * C 0 1 := rfl
    have hrow : E 13 (k * C 0 1 + i) = bz (liveB D (k * C 0 1 + i)) := (h.2.2.2.1 _).trans (hSv _ (by omega))
    unfold colR
    rw [hrow]
    cases hlv : liveB D (k * C 0 1 + i) with
    | false =>
      rw [if_pos (by decide)]
      exact ih (i + 1) E (by omega) (CI_skip hlv h) h2
    | true =>
      rw [if_neg (by decide)]
      obtain ⟨hne, hst⟩ := CI_step hB hk (show i < C 0 1 by omega) hlv h nt
      rcases hst with ⟨q, -⟩ | ⟨-, s', T', q1, q2⟩
      · rw [h2] at q; exact absurd q (by decide)
      · have h3 := put_142 h.1.1 h2 q1
        rw [q1]
        exact ih (i + 1) _ (by omega) q2 (by rw [copyT_lo (by omega)]; exact h3)
theorem nd_collect (hB : CB C) (hI : Inv C L D) (hV : InV C D) (h2 : D 14 2 = 0) : okA (collectT nt D (C 0 0) (C 0 1)).1 ∧ (collectT nt D (C 0 0) (C 0 1)).2 14 2 = 0 := by
  have hp := fun k E (e : pickT D (C 0 0) (C 0 1) = (some k, E)) => CI_begin hB hI hV e
  have hlo : (pickT D (C 0 0) (C 0 1)).2 14 2 = D 14 2 := by
    unfold pickT
    split
    · rfl
    · exact surveyT_lo (by omega)
  unfold collectT
  generalize pickT D (C 0 0) (C 0 1) = W at hp hlo ⊢
  obtain ⟨o', E⟩ := W
  cases o' with
  | none => exact ⟨Or.inl rfl, hlo.trans h2⟩
  | some k =>
    obtain ⟨eS, hk, hsv, hci⟩ := hp k E rfl
    exact nd_colR hB hk hsv.2.2.1 (C 0 1) 0 E (by omega) hci (hlo.trans h2)
theorem nd_comR (hB : CB C) (hn : n ≤ 6) (hL : L + n < 1000000) : ∀ m i at' E, i + m = n → at' ≤ 20 → CMI C L D E n i → E 14 2 = 0 →
    okA (comR nt (C 0 0) (C 0 1) n m i at' E).1 ∧ (comR nt (C 0 0) (C 0 1) n m i at' E).2 14 2 = 0 := by
  intro m
  induction m with
  | zero =>
    intro i at' E hi hat h h2
    unfold comR
    exact ⟨okA_i3 (by omega), (nd_z2 (E := E) (v := E 14 10) (u := i3 n)).trans h2⟩
  | succ m ih =>
    intro i at' E hi hat h h2
    obtain ⟨h0, he0, hst⟩ := CMI_step hB h (show i < n by omega) hn hL hat nt
    have h21 : up E 14 10 (E 14 10 + 1) 14 2 = 0 := by rw [up_ne (by omega)]; exact h2
    unfold comR
    rcases hst with ⟨q, -⟩ | ⟨-, s', T', q1, q2, q3, q4⟩
    · rw [h21] at q; exact absurd q (by decide)
    · have h3 := put_142 h0.1 h21 q1
      have sp := filR_spec s' (20 - at') 0 at' T' (by omega) (by omega)
      have h22 : (fillPartT T' s' i n at').2 14 2 = 0 := by
        show fillT (filR s' (20 - at') 0 at' T').2.2 s' 3 ((filR s' (20 - at') 0 at' T').2.2 14 10) (i3 i) (i3 n) (i3 (filR s' (20 - at') 0 at' T').1) 14 2 = 0
        rw [fillT_lo (by omega), sp.2.2.2.1 14 2 (by omega)]; exact h3
      rw [q1]
      exact ih (i + 1) _ _ (by omega) q4 q3 h22
theorem nd_commit (hB : CB C) (hI : Inv C L D) (hL : L + 6 < 1000000) (h2 : D 14 2 = 0) : okA (commitT nt D (C 0 0) (C 0 1)).1 ∧ (commitT nt D (C 0 0) (C 0 1)).2 14 2 = 0 := by
  have hp := partsN_le D
  unfold commitT
  by_cases c1 : D 14 1 = 0
  · rw [if_pos c1]; exact ⟨Or.inl rfl, h2⟩
  rw [if_neg c1]
  by_cases c3 : i3 (partsN D) ≤ D 15 3
  · rw [if_pos c3]
    exact nd_comR hB hp (by omega) (partsN D) 0 0 D (by omega) (by omega) (CMI_begin hB hI hp c3) h2
  · rw [if_neg c3]; exact ⟨Or.inl rfl, h2⟩
theorem nd_first (hB : CB C) (hI : Inv C L D) (hV : InV C D) (h2 : D 14 2 = 0) : (firstT2 C R a nt D).1 = false ∧ (firstT2 C R a nt D).2 14 2 = 0 := by
  have h22 : (wantsT C R a D).2 14 2 = 0 := (wantsT_lo (by omega)).trans h2
  unfold firstT2
  by_cases cw : (wantsT C R a D).1 = true
  · rw [if_pos cw]
    obtain ⟨q1, q2⟩ := nd_collect (nt := nt) hB (Inv_wants (R := R) (a := a) hI) (InV_wants hB hV) h22
    refine ⟨decide_eq_false (fun e => ?_), q2⟩
    rw [e] at q1
    rcases q1 with q | q
    · exact absurd q (by decide)
    · exact q (by decide)
  · rw [if_neg cw]; exact ⟨rfl, h22⟩
theorem not_okA2 (h : okA v) : ¬ v = -2 := by
  intro e
  rw [e] at h
  rcases h with q | q
  · exact absurd q (by decide)
  · exact q (by decide)
theorem nd_wriE (hB : CB C) (hw : WI C L E0 E f p r i) (hi : 0 < i) (hi2 : i ≤ 2) (hL : L + 8 < 1000000) (hf : f < C 0 3) (hp : p < C 2 f) (h2 : E 14 2 = 0) (h12 : E0 12 f = 0)
    (hr : C 1 f = 3 → i + ((keptN E0 + (if E0 9 (f * 4 + p) = 0 then 1 else 0)) / 4 + 1) ≤ r) (hr2 : r ≤ 36) : okA (wriE C nt f p E).1 ∧ (wriE C nt f p E).2 14 2 = 0 := by
  have c5 := hB.2.2.2.1
  have c4 := (hB.2.2.2.2.2 f hf).2.2
  have hm := WI_map hB hw hi hf hp
  have hls := hw.1.2.1
  have e10 : E 14 10 = i3 (lsN E) := hls.1
  have hl2 := hls.2.1
  have hl3 := hls.2.2.1
  have h22 : mapT E (f * 4 + p) 14 2 = 0 := by rw [mapT_lo (by omega)]; exact h2
  have hc := nd_commit (nt := nt) hB hm (by omega) h22
  have e1 : up (up E 9 (f * 4 + p) (E 14 10)) 14 11 0 = mapT E (f * 4 + p) := rfl
  unfold wriE
  simp only [e1]
  by_cases c3 : C 1 f = 3
  · rw [if_pos c3]
    have hans : (commitT nt (mapT E (f * 4 + p)) (C 0 0) (C 0 1)).1 = i3 (partsN (mapT E (f * 4 + p))) ∨ (commitT nt (mapT E (f * 4 + p)) (C 0 0) (C 0 1)).1 = -2 := by
      obtain ⟨w1, w2, w3, w4, w5, w6⟩ := hw
      obtain ⟨-, s, hs, k2', k3', -⟩ := w6 hi
      have hq : ¬ E 14 10 = 0 := by
        have := node_seq (w1.2.2.1 s hs) (Or.inl k2')
        rw [← k3', this.1]
        exact fun q => by have := (i3_eq (a := sq E s) (b := 0) (xi_lt _) (by omega)).mp q; omega
      have hk := kept_map (E := E) (a := f * 4 + p) (by omega) (by rw [show (f * 4 + p) / 4 = f by omega, (w3 f).2]; exact h12) hq
      have hkE : keptN E = keptN E0 := by
        unfold keptN
        exact cnt_congr (fun t ht => by unfold keptT; rw [(w3 t).1, (w3 (t / 4)).2])
      unfold commitT
      rw [if_neg (by rw [mapT_lo (by omega)]; exact w4)]
      have hle : i3 (partsN (mapT E (f * 4 + p))) ≤ mapT E (f * 4 + p) 15 3 := by
        rw [mapT_lo (by omega), w2]
        have := hr c3
        have := partsN_le (mapT E (f * 4 + p))
        refine (i3_le (by omega) (by omega)).mpr ?_
        unfold partsN
        rw [hk, hkE, (w3 (f * 4 + p)).1]
        omega
      rw [if_pos hle]
      exact comR_ans _ _ _ _
    have hp6 := partsN_le (mapT E (f * 4 + p))
    rcases hans with q | q
    · rw [if_pos (by rw [q]; exact (i3_le (a := 0) (by omega) (by omega)).mpr (Nat.zero_le _)), e10]
      exact ⟨okA_i3 (by omega), hc.2⟩
    · exact absurd q (not_okA2 hc.1)
  · rw [if_neg c3, e10]; exact ⟨okA_i3 (by omega), h22⟩
theorem nd_wriR (hB : CB C) (hL : L + 8 < 1000000) (hr2 : r ≤ 36) (hf : f < C 0 3) (hp : p < C 2 f) (hv : u = i3 g) (hg : g ≤ 255) (h12 : E0 12 f = 0) (hk : k ≤ 2)
    (hr : C 1 f = 3 → k + ((keptN E0 + (if E0 9 (f * 4 + p) = 0 then 1 else 0)) / 4 + 1) ≤ r) (hkr : k ≤ r) (hk1 : 1 ≤ k) :
    ∀ m i E, i + m = k → WI C L E0 E f p r i → E 14 2 = 0 → okA (wriR C nt f p u m E).1 ∧ (wriR C nt f p u m E).2 14 2 = 0 := by
  intro m
  induction m with
  | zero =>
    intro i E hi hw h2
    have e : i = k := by omega
    subst e
    exact nd_wriE hB hw (by omega) (by omega) hL hf hp h2 h12 hr hr2
  | succ m ih =>
    intro i E hi hw h2
    have he : ¬ E 15 3 = 0 := by rw [hw.2.1]; exact fun q => by have := (i3_eq (a := r - i) (b := 0) (by omega) (by omega)).mp q; omega
    unfold wriR
    rcases WI_step hB hw hL (by omega) (by omega) hr2 hf hp hv hg nt with ⟨e1, -⟩ | ⟨e1, e2⟩
    · exfalso
      rcases putNew_is (nt := nt) (x := 1) (y := i3 f) (z := i3 p) (v := u) hB hw.1 (by omega) he with ⟨-, q, -⟩ | ⟨q, -⟩
      · rw [h2] at q; exact absurd q (by decide)
      · rw [e1] at q; cases q
    · rw [if_pos e1]
      exact ih (i + 1) _ (by omega) e2 (putNew_142 (Inv_last hw.1 (by omega)).1 h2 e1)
theorem nd_write (hB : CB C) (hI : Inv C L D) (hV : InV C D) (hL : L + 8 < 1000000) (h2 : D 14 2 = 0) : okA (writeT C R a nt D x y v).1 ∧ (writeT C R a nt D x y v).2 14 2 = 0 := by
  have hF := Inv_first (R := R) (a := a) hB hI hV nt
  unfold writeT
  by_cases hcnd : (mayB C D x y && (! decide (v < 0) && decide (v ≤ 255))) = true
  · rw [if_pos hcnd]
    simp only [Bool.and_eq_true, Bool.not_eq_true', decide_eq_false_iff_not, decide_eq_true_eq] at hcnd
    obtain ⟨hm, hv0, hv1⟩ := hcnd
    obtain ⟨f, p, hf, hp, rfl, rfl, h1, h12⟩ := mayB_is hB hm
    obtain ⟨g, hg, rfl⟩ := i3_of (Int32.not_lt.mp hv0)
    have hg2 := (i3_le (b := 255) hg (by omega)).mp hv1
    have c5 := hB.2.2.2.1
    have c4 := (hB.2.2.2.2.2 f hf).2.2
    obtain ⟨n1, n2⟩ := nd_first (R := R) (a := a) (nt := nt) hB hI hV h2
    have hp1 := firstT2_141 (R := R) (a := a) (nt := nt) (Okd3 hI) n1
    have hp12 := firstT2_12 (R := R) (a := a) (nt := nt) (k := f) (j := 12) (by omega) (Okd3 hI) n1
    rw [n1, if_neg (by decide), xi_i3 (by omega), xi_i3 (by omega)]
    generalize firstT2 C R a nt D = F at *
    unfold wriB
    cases hr : roomB C F.2 f p with
    | false => rw [if_neg (by decide)]; exact ⟨Or.inl rfl, n2⟩
    | true =>
      rw [if_pos rfl]
      obtain ⟨r1, r2⟩ := room_is hB hF.1 hr
      have hw := WI_begin (f := f) (p := p) hB hF.1 (by rw [hp1]; exact h1)
      have hb := r2
      unfold roomN behindN at hb
      refine nd_wriR (k := if C 1 f = 2 then 2 else 1) hB hL r1 hf hp rfl hg2 (by rw [hp12]; exact h12) (by split <;> omega) (fun q3 => ?_) ?_ (by split <;> omega) (if C 1 f = 2 then 2 else 1) 0 F.2 (by omega) hw n2
      · rw [if_neg (by omega)]
        rw [if_neg (by omega), if_pos q3] at hb
        omega
      · split
        · rename_i q; rw [if_pos q] at hb; omega
        · rename_i q
          rw [if_neg q] at hb
          split at hb <;> omega
  · rw [if_neg hcnd]; exact ⟨Or.inl rfl, h2⟩
theorem nd_remove (hB : CB C) (hI : Inv C L D) (hV : InV C D) (hL : L + 8 < 1000000) (h2 : D 14 2 = 0) : okA (removeT C R a nt D x).1 ∧ (removeT C R a nt D x).2 14 2 = 0 := by
  have hF := Inv_first (R := R) (a := a) hB hI hV nt
  unfold removeT
  by_cases hcnd : (! decide (D 14 1 = 0) && (isFileB C x && (decide (D 12 (xi x) = 0) && ! decide (bitsN D (xi x) = 0)))) = true
  · rw [if_pos hcnd]
    obtain ⟨n1, n2⟩ := nd_first (R := R) (a := a) (nt := nt) hB hI hV h2
    rw [n1, if_neg (by decide)]
    generalize firstT2 C R a nt D = F at *
    unfold remB
    by_cases hcn : i3 (1 + ((keptN F.2 - mapN F.2 (xi x)) / 4 + 1) + C 0 2) ≤ F.2 15 3
    · rw [if_pos hcn]
      have he := remB_he hB hF.1 hcn
      have hls := hF.1.2.1
      have e10 : F.2 14 10 = i3 (lsN F.2) := hls.1
      have hl2 := hls.2.1
      have hl3 := hls.2.2.1
      rcases putNew_is (nt := nt) (x := 2) (y := i3 (xi x)) (z := -1) (v := -1) hB hF.1 (by omega) he with ⟨-, q, -⟩ | ⟨q, -, s, hs, -, g1, g2, g3, g4⟩
      · rw [n2] at q; exact absurd q (by decide)
      · simp only [q, if_true]
        rw [e10, i3_add1] at g3
        have p2 := putNew_142 (nt := nt) (x := 2) (y := i3 (xi x)) (z := -1) (v := -1) (Inv_last hF.1 (by omega)).1 n2 q
        split
        · refine ⟨?_, ?_⟩
          · show okA (unmapT (putNewT nt F.2 (C 0 0) (C 0 1) 2 (i3 (xi x)) (-1) (-1)).2 (xi x) 14 10)
            rw [unmapT_lo (by omega), g3]; exact okA_i3 (by omega)
          · show unmapT (putNewT nt F.2 (C 0 0) (C 0 1) 2 (i3 (xi x)) (-1) (-1)).2 (xi x) 14 2 = 0
            rw [unmapT_lo (by omega)]; exact p2
        · refine ⟨?_, ?_⟩
          · show okA ((putNewT nt F.2 (C 0 0) (C 0 1) 2 (i3 (xi x)) (-1) (-1)).2 14 10)
            rw [g3]; exact okA_i3 (by omega)
          · show up (putNewT nt F.2 (C 0 0) (C 0 1) 2 (i3 (xi x)) (-1) (-1)).2 12 (xi x) 1 14 2 = 0
            rw [up_ne (by omega)]; exact p2
    · rw [if_neg hcn]; exact ⟨Or.inl rfl, n2⟩
  · rw [if_neg hcnd]; exact ⟨Or.inl rfl, h2⟩
/-- a line of a work that isn't cut: the class says of it what the reference says -/
theorem act_did (hB : CB C) (hI : Inv C L D) (hV : InV C D) (hL : L + 8 < 1000000) (h2 : D 14 2 = 0) (hk : k < 6) : (actT C R a nt D (i3 k) x y v).1 = (didT C R a nt D k x y v).1 := by
  have n0 := (nd_write (R := R) (a := a) (nt := nt) (x := x) (y := y) (v := v) hB hI hV hL h2).1
  have n1 := (nd_remove (R := R) (a := a) (nt := nt) (x := x) hB hI hV hL h2).1
  have n4 := (nd_commit (nt := nt) hB hI (by omega) h2).1
  have n5 := (nd_collect (nt := nt) hB hI hV h2).1
  unfold didT actT
  match k, hk with
  | 0, _ => exact okA_neg n0
  | 1, _ => exact okA_neg n1
  | 2, _ => rfl
  | 3, _ => rfl
  | 4, _ => exact okA_neg n4
  | 5, _ => exact okA_neg n5
theorem did_142 (hB : CB C) (hI : Inv C L D) (hV : InV C D) (hL : L + 8 < 1000000) (h2 : D 14 2 = 0) : (didT C R a nt D k x y v).2 14 2 = 0 := by
  unfold didT
  split
  · exact (nd_write hB hI hV hL h2).2
  split
  · exact (nd_remove hB hI hV hL h2).2
  split
  · exact (open_lo (by omega)).trans h2
  split
  · exact close_142.trans h2
  split
  · exact (nd_commit hB hI (by omega) h2).2
  · exact (nd_collect hB hI hV h2).2
end
