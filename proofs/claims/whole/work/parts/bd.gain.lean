/-! ===== a collect gains a slot at least; disks alike where it matters ===== -/
/-- the places of a disk's table that are there -/
def rg (j k : Nat) : Prop := j < 2 ∧ k < 6 ∨ 2 ≤ j ∧ j < 7 ∧ k < 36 ∨ 7 ≤ j ∧ j < 9 ∧ k < 144 ∨ j = 9 ∧ k < 20 ∨ 11 ≤ j ∧ j < 13 ∧ k < 5 ∨ j = 14 ∧ (k = 1 ∨ k = 2 ∨ k = 3 ∨ k = 10) ∨ j = 15 ∧ k < 7
section
variable {M M' : xM} {D E T X X' : xT} {C : xC} {R : Nat → Int32} {d fu n m i j o p q a k l s t w K P L L' b B B' f e : Nat} {v x y r z : Int32} {nt : Bool}
theorem CI_mk (hB : CB C) (hk : k < C 0 0) (hi : i < C 0 1) (hlv : liveB D (k * C 0 1 + i) = true) (h : CI C L D E k i) (hSp : Spot C E m l) : m ≠ k := by
  obtain ⟨hI, h2, h3, h4, h5, h6, h7, h8, l', e, h9, h10, h11, h12, h13⟩ := h
  have c61 := hB.2.1
  intro q
  obtain ⟨s1, s2, s3, s4, s5⟩ := hSp
  rw [q] at s4 s1
  rw [h10] at s4
  have e1 := (i3_eq (by omega) (by omega)).mp s4
  obtain ⟨l2, g1, g2, g3, g4⟩ := hI.2.2.2.2.2.2.2.2 k hk
  rw [h10] at g2
  have e2 := (i3_eq (by omega) (by omega)).mp g2
  rcases g4 with r | r | r
  · exact h3 r
  · omega
  · omega
theorem gr_colR (hB : CB C) (hk : k < C 0 0) (hSv : ∀ s, s < tot C → D 13 s = bz (liveB D s)) : ∀ m i E e l, i + m = C 0 1 → CI C L D E k i → E 14 2 = 0 → E 15 3 = i3 e → E 1 k = i3 l → e ≤ 36 → l ≤ C 0 1 → l + (cnt (fun j => liveB D (k * C 0 1 + j)) (C 0 1) - cnt (fun j => liveB D (k * C 0 1 + j)) i) ≤ e →
    (colR nt (C 0 0) (C 0 1) k m i E).1 = i3 k ∧ (colR nt (C 0 0) (C 0 1) k m i E).2 15 3 = i3 (e - (cnt (fun j => liveB D (k * C 0 1 + j)) (C 0 1) - cnt (fun j => liveB D (k * C 0 1 + j)) i) + (C 0 1 - l)) := by
  have h6 := hB.1
  have h61 := hB.2.1
  intro m
  induction m with
  | zero =>
    intro i E e l hi h h2 h3 h1 he hl hr
    have ei : i = C 0 1 := by omega
    subst ei
    have o4 : E 15 1 = i3 (C 0 1) := h.1.1.2.2.2.1
    unfold colR
    refine ⟨rfl, ?_⟩
    show up (up (eraseT E (C 0 1) k) 14 11 0) 14 3 (eraseT E (C 0 1) k 14 3 + 1) 15 3 = _
    rw [up_ne (by omega), up_ne (by omega)]
    unfold eraseT
    rw [up_ne (by omega), clrT_hi _ _ _ _ _ (by omega), up_ne (by omega), up_eq, h3, o4, h1, i3_sub hl, i3_add, Nat.sub_self, Nat.sub_zero]
  | succ m ih =>
    intro i E e l hi h h2 h3 h1 he hl hr
    have hBk := blk (nw := C 0 1) hk
    have hT : tot C = C 0 0 * C 0 1 := rfl
    have hrow : E 13 (k * C 0 1 + i) = bz (liveB D (k * C 0 1 + i)) := (h.2.2.2.1 _).trans (hSv _ (by omega))
    unfold colR
    rw [hrow]
    cases hlv : liveB D (k * C 0 1 + i) with
    | false =>
      have ec : cnt (fun j => liveB D (k * C 0 1 + j)) (i + 1) = cnt (fun j => liveB D (k * C 0 1 + j)) i := by rw [cnt_s, hlv]; rfl
      rw [if_pos (by decide)]
      have := ih (i + 1) E e l (by omega) (CI_skip hlv h) h2 h3 h1 he hl (by rw [ec]; exact hr)
      rw [ec] at this
      exact this
    | true =>
      have ec : cnt (fun j => liveB D (k * C 0 1 + j)) (i + 1) = cnt (fun j => liveB D (k * C 0 1 + j)) i + 1 := by rw [cnt_s, hlv]; rfl
      have hcl := cnt_lt (p := fun j => liveB D (k * C 0 1 + j)) (show i < C 0 1 by omega) hlv
      rw [if_neg (by decide)]
      obtain ⟨hne, hst⟩ := CI_step hB hk (show i < C 0 1 by omega) hlv h nt
      obtain ⟨m', l', hSp, -, -, -, hput⟩ := put_frame hB h.1 hne nt
      have hmk := CI_mk hB hk (show i < C 0 1 by omega) hlv h hSp
      rcases hst with ⟨q, -⟩ | ⟨-, s', T', q1, q2⟩
      · rw [h2] at q; exact absurd q (by decide)
      · rcases hput with ⟨q, -⟩ | ⟨-, D1, eq, hPo⟩
        · rw [h2] at q; exact absurd q (by decide)
        · rw [q1] at eq
          injection eq with a1 a2
          subst a2
          have h4 := put_142 h.1.1 h2 q1
          obtain ⟨f1, f2, f3, f4, f5, f6, f7⟩ := hPo
          rw [q1]
          simp only
          have := ih (i + 1) (copyT T' (k * C 0 1 + i) s') (e - 1) l (by omega) q2 (by rw [copyT_lo (by omega)]; exact h4) (by rw [copyT_lo (by omega), f7, h3, show (1 : Int32) = i3 1 from rfl, i3_sub (by omega)]) (by rw [copyT_lo (by omega), f6 k (fun q => hmk q.symm)]; exact h1) (by omega) hl (by rw [ec]; omega)
          rw [ec] at this
          refine ⟨this.1, ?_⟩
          rw [this.2]
          congr 1
          omega
theorem pick_dirty (hB : CB C) (hI : Inv C L D) (hV : InV C D) (e : pickT D (C 0 0) (C 0 1) = (some k, E)) : 0 < diN D (C 0 1) k := by
  have h6 := hB.1
  have c61 := hB.2.1
  have h36 := tot36 hB
  unfold pickT at e
  by_cases c : D 14 1 = 0
  · rw [if_pos c] at e; injection e with e1 e2; cases e1
  rw [if_neg c] at e
  injection e with e1 e2
  have hk := pickB_lt h6 e1
  have hpos := pickF_pos (E := surveyT D (C 0 0) (C 0 1)) (C 0 0) h6
  unfold pickB at e1
  rcases hpos with ⟨p1, p2⟩ | ⟨h', g1, g2, g3⟩
  · rw [p1] at e1; simp [n1_lt] at e1
  · have eh : h' < 2147483648 := by omega
    simp only [g2, i3_nl eh, if_false, xi_i3 eh] at e1
    by_cases c2 : surveyT D (C 0 0) (C 0 1) 10 h' ≤ surveyT D (C 0 0) (C 0 1) 15 3 - surveyT D (C 0 0) (C 0 1) 1 h'
    · rw [if_pos c2] at e1
      injection e1 with e1
      subst e1
      have hv := pickF_val h6 g2 g1
      rw [hv] at g3
      obtain ⟨l, l1, l2, l3, l4⟩ := hI.2.2.2.2.2.2.2.2 h' hk
      have hds := di_sum (era_l l1 l3)
      have hhd : ¬ surveyT D (C 0 0) (C 0 1) 15 4 = i3 h' := by
        intro q
        rw [if_pos q.symm] at g3
        exact absurd g3 (by decide)
      rw [if_neg (fun q => hhd q.symm), dirty_eq hB hI.1 hV hI.2.2.2.2.2.2.2 hk] at g3
      exact (i3_lt (a := 0) (by omega) (by omega)).mp g3
    · rw [if_neg c2] at e1; cases e1
/-- a collect that can be gains -/
theorem gr_collect (hB : CB C) (hI : Inv C L D) (hV : InV C D) (h2 : D 14 2 = 0) (hD : D 15 3 = i3 e) (he : e ≤ 36) :
    ((collectT nt D (C 0 0) (C 0 1)).1 = -1) ∨ ∃ k e', k < C 0 0 ∧ (collectT nt D (C 0 0) (C 0 1)).1 = i3 k ∧ (collectT nt D (C 0 0) (C 0 1)).2 15 3 = i3 e' ∧ e < e' ∧ e' ≤ 100 := by
  have h6 := hB.1
  have h61 := hB.2.1
  have hp := fun k E (e : pickT D (C 0 0) (C 0 1) = (some k, E)) => CI_begin hB hI hV e
  have hpd := fun k E (e : pickT D (C 0 0) (C 0 1) = (some k, E)) => pick_dirty hB hI hV e
  unfold collectT
  generalize pickT D (C 0 0) (C 0 1) = W at hp hpd ⊢
  obtain ⟨o', E⟩ := W
  cases o' with
  | none => exact Or.inl rfl
  | some k =>
    obtain ⟨eS, hk, hsv, hci⟩ := hp k E rfl
    have hdi := hpd k E rfl
    right
    have hE3 : E 15 3 = i3 e := by rw [eS, surveyT_lo (by omega)]; exact hD
    have hE2 : E 14 2 = 0 := by rw [eS, surveyT_lo (by omega)]; exact h2
    obtain ⟨l, q1, q2, q3, -⟩ := hI.2.2.2.2.2.2.2.2 k hk
    have hE1 : E 1 k = i3 l := by rw [eS, surveyT_lo (by omega)]; exact q2
    have hlv : liveB E = liveB D := by rw [eS]; exact live_surv
    have hds := di_sum (era_l q1 q3)
    have hci' := hci
    obtain ⟨-, -, -, -, -, -, -, -, l2, e2, h9, h10, h11, h12, h13⟩ := hci'
    rw [hE1] at h10
    rw [hE3] at h11
    have x1 := (i3_eq (by omega) (by omega)).mp h10
    have x2 := (i3_eq (by omega) (by omega)).mp h11
    have x3 : cnt (fun j => liveB E (k * C 0 1 + j)) 0 = 0 := rfl
    have x4 : cnt (fun j => liveB E (k * C 0 1 + j)) (C 0 1) = liN D (C 0 1) k := by rw [hlv]; rfl
    rw [x3, x4] at h12
    have := gr_colR (nt := nt) hB hk hsv.2.2.1 (C 0 1) 0 E e l (by omega) hci hE2 hE3 hE1 he q1 (by rw [x3, x4]; omega)
    rw [x3, x4] at this
    exact ⟨k, _, hk, this.1, this.2, by omega, by omega⟩
end
