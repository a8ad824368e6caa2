/-! ===== remove: both sides ===== -/
section
variable {M : xM} {D E X Y Z T P X' E' E0 E'' X'' : xT} {C : xC} {R N : Nat → Int32} {fu b d L L' s o t k n m i j p q f l w nb nw a at' r g : Nat} {x y z v u c : Int32} {nt : Bool}
theorem or_0 : x ||| 0 = x := Int32.or_zero
theorem t_bitStep (h : Lay M) (hb : b ≤ 2140) (hR : Rel C b D X) (hM : InM C D) (hf : f < 5) (hi : i < 4) (hx : x ||| 1 <<< (i3 i &&& 31) = i3 m) : L_X12_mappedOf_5 fu (n + 1) 0 (i3 b) (i3 f) x (i3 i) (mmb X M) = L_X12_mappedOf_5 fu n 0 (i3 b) (i3 f) (if D 9 (f * 4 + i) = 0 then x else i3 m) (i3 (i + 1)) (mmb X M) := by
  conv => lhs; unfold L_X12_mappedOf_5
  rw [if_neg (fun q => by have := (i3_le (a := 4) (by omega) (by omega)).mp q; omega), t_mapOf h hb hR hf hi]
  simp only [Option.bind_some, map_le hM (show f * 4 + i < 20 by omega), i3_add1]
  by_cases c : D 9 (f * 4 + i) = 0
  · rw [if_pos c, if_pos c, or_0]
  · rw [if_neg c, if_neg c, hx]
theorem t_mappedOf (h : Lay M) (hb : b ≤ 2140) (hR : Rel C b D X) (hM : InM C D) (hf : f < 5) (hfu : 100 < fu) : F_X12_mappedOf fu 0 (i3 b) (i3 f) (mmb X M) = some (i3 (bitsN D f), mmb X M) := by
  obtain ⟨fu', rfl⟩ : ∃ n, fu = n + 5 := ⟨fu - 5, by omega⟩
  unfold F_X12_mappedOf
  rw [show (L_X12_mappedOf_5 (fu' + 5) (fu' + 5) 0 (i3 b) (i3 f) 0 0 (mmb X M)) = L_X12_mappedOf_5 (fu' + 5) (fu' + 4 + 1) 0 (i3 b) (i3 f) 0 (i3 0) (mmb X M) from rfl, t_bitStep h hb hR hM hf (by omega) or_1]
  generalize q0 : (if D 9 (f * 4 + 0) = 0 then 0 else 1) = b0
  have r0 : (if D 9 (f * 4 + 0) = 0 then (0 : Int32) else i3 1) = i3 b0 := by rw [← q0]; split <;> rfl
  have l0 : b0 < 2 := by rw [← q0]; split <;> omega
  rw [r0, show fu' + 4 = fu' + 3 + 1 from rfl, t_bitStep h hb hR hM hf (by omega) (or_b l0)]
  generalize q1 : (if D 9 (f * 4 + 1) = 0 then 0 else 2) = b1
  have r1 : (if D 9 (f * 4 + (0 + 1)) = 0 then i3 b0 else i3 (b0 + 2)) = i3 (b0 + b1) := by rw [← q1]; split <;> rfl
  have l1 : b0 + b1 < 4 := by rw [← q1]; split <;> omega
  rw [r1, show fu' + 3 = fu' + 2 + 1 from rfl, t_bitStep h hb hR hM hf (by omega) (or_c l1)]
  generalize q2 : (if D 9 (f * 4 + 2) = 0 then 0 else 4) = b2
  have r2 : (if D 9 (f * 4 + (0 + 1 + 1)) = 0 then i3 (b0 + b1) else i3 (b0 + b1 + 4)) = i3 (b0 + b1 + b2) := by rw [← q2]; split <;> rfl
  have l2 : b0 + b1 + b2 < 8 := by rw [← q2]; split <;> omega
  rw [r2, show fu' + 2 = fu' + 1 + 1 from rfl, t_bitStep h hb hR hM hf (by omega) (or_d l2)]
  generalize q3 : (if D 9 (f * 4 + 3) = 0 then 0 else 8) = b3
  have r3 : (if D 9 (f * 4 + (0 + 1 + 1 + 1)) = 0 then i3 (b0 + b1 + b2) else i3 (b0 + b1 + b2 + 8)) = i3 (b0 + b1 + b2 + b3) := by rw [← q3]; split <;> rfl
  have e1 : bitsN D f = b0 + b1 + b2 + b3 := by unfold bitsN; rw [q0, q1, q2, q3]
  rw [r3, e1]
  conv => lhs; unfold L_X12_mappedOf_5
  rw [if_pos (by decide)]
theorem cnt_split {p1 q1 : Nat → Bool} : ∀ n, cnt (fun i => p1 i && q1 i) n + cnt (fun i => p1 i && ! q1 i) n = cnt p1 n
  | 0 => rfl
  | n + 1 => by
    have ih := cnt_split (p1 := p1) (q1 := q1) n
    rw [cnt_s, cnt_s, cnt_s]
    cases p1 n <;> cases q1 n <;> simp <;> omega
theorem kept_but (hf : f < 5) (h12 : D 12 f = 0) : cnt (kepB D (i3 f)) 20 = keptN D - mapN D f := by
  have h1 := cnt_split (p1 := keptT D) (q1 := fun a => decide (a / 4 = f)) 20
  have h2 : cnt (fun a => keptT D a && decide (a / 4 = f)) 20 = mapN D f := by
    have := cnt_block (p := keptT D) (nw := 4) (by decide) (nb := 5) hf
    rw [show (5 * 4 : Nat) = 20 from rfl] at this
    rw [this]
    unfold mapN
    refine cnt_congr (fun i hi => ?_)
    unfold keptT
    rw [show (f * 4 + i) / 4 = f by omega, h12]
    simp
  have h3 : cnt (fun a => keptT D a && ! decide (a / 4 = f)) 20 = cnt (kepB D (i3 f)) 20 := by
    refine cnt_congr (fun a ha => ?_)
    unfold kepB
    by_cases c : a / 4 = f
    · rw [decide_eq_true c, decide_eq_true (by rw [c])]
    · rw [decide_eq_false c, decide_eq_false (fun q => c ((i3_eq (by omega) (by omega)).mp q))]
  unfold keptN
  omega
theorem Inv_unmapT (hI : Inv C L D) : Inv C L (unmapT D f) := by
  obtain ⟨o1, o2, o3⟩ := hI.2.2.2.2.2.2.1
  refine Inv_unm hI (fun j k' h1 h2 h3 h4 h5 h6 h7 => unmapT_lo (by omega)) (fun a ha => ?_) ⟨by rw [unmapT_lo (by omega)]; exact o1, by rw [unmapT_lo (by omega)]; exact o2, fun g hg => by rw [unmapT_lo (by omega), unmapT_lo (by omega)]; exact o3 g hg⟩
  by_cases e : f * 4 ≤ a ∧ a < f * 4 + 4
  · right; unfold unmapT; rw [if_pos ⟨rfl, e⟩]
  · left; unfold unmapT; rw [if_neg (by omega), if_neg (by omega)]
theorem Inv_orph (hI : Inv C L D) (hf : f < 5) (h11 : ¬ D 11 f = 0) : Inv C L (up D 12 f 1) := by
  obtain ⟨o1, o2, o3⟩ := hI.2.2.2.2.2.2.1
  refine Inv_unm hI (fun j k' h1 h2 h3 h4 h5 h6 h7 => up_ne (by omega)) (fun a ha => Or.inl (up_ne (by omega))) ⟨by rw [up_ne (by omega)]; exact o1, by rw [up_ne (by omega)]; exact o2, fun g hg => ?_⟩
  rw [up_ne (j' := 11) (by omega)]
  by_cases e : g = f
  · rw [e, up_eq]
    have : D 11 f = 1 := (o3 f hf).1.resolve_left h11
    exact ⟨Or.inr this, Or.inr rfl, fun _ => this⟩
  · rw [up_ne (by omega)]; exact o3 g hg
theorem InV_cg (hV : InV C D) (h : ∀ j k, j ≠ 11 → j ≠ 12 → j < 25 → E j k = D j k) : InV C E := by
  rcases hV with e | ⟨e, hs⟩
  · exact Or.inl ((h 14 11 (by omega) (by omega) (by omega)).trans e)
  · have e2 : E 2 = D 2 := funext fun k => h 2 k (by omega) (by omega) (by omega)
    have e3 : E 3 = D 3 := funext fun k => h 3 k (by omega) (by omega) (by omega)
    have e4 : E 4 = D 4 := funext fun k => h 4 k (by omega) (by omega) (by omega)
    have e5 : E 5 = D 5 := funext fun k => h 5 k (by omega) (by omega) (by omega)
    have e9 : E 9 = D 9 := funext fun k => h 9 k (by omega) (by omega) (by omega)
    have e15 : E 15 = D 15 := funext fun k => h 15 k (by omega) (by omega) (by omega)
    have hl : liveB E = liveB D := by
      funext s
      unfold liveB isWholeT isJourT mapToT isLeastT
      rw [e2, e3, e4, e5, e9, e15]
    have hj : jourB E = jourB D := by
      funext s
      unfold jourB isJourT isLeastT
      rw [e2, e3, e15]
    refine Or.inr ⟨(h 14 11 (by omega) (by omega) (by omega)).trans e, ?_⟩
    unfold survOK at hs ⊢
    rw [hl, hj, h 14 14 (by omega) (by omega) (by omega), h 14 15 (by omega) (by omega) (by omega)]
    refine ⟨hs.1, hs.2.1, fun s q => ?_, fun k q => ?_⟩
    · rw [h 13 s (by omega) (by omega) (by omega)]; exact hs.2.2.1 s q
    · rw [h 10 k (by omega) (by omega) (by omega)]; exact hs.2.2.2 k q
theorem InV_open (hV : InV C D) : InV C (openT C D x).2 := by
  unfold openT
  split
  · exact InV_cg hV (fun j k h1 h2 h3 => up_ne (by omega))
  · exact hV
theorem InV_close (hV : InV C D) : InV C (closeT C D x).2 := by
  unfold closeT
  split
  · simp only
    split
    · exact InV_cg hV (fun j k h1 h2 h3 => up_ne (by omega))
    · exact Or.inl (by unfold unmapT; rw [if_neg (by omega), if_pos ⟨rfl, rfl⟩])
  · exact hV
end
