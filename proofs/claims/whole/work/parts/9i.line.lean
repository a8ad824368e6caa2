/-! ===== a line of the noted work, in the reference: what it leaves, and how many puts ===== -/
section
variable {M : xM} {D E X Y Z T N X' E' E0 Tc : xT} {C : xC} {R G G' : Nat → Int32} {fu b d L L' s o t k n m i j p q f l w nb nw a r g c e B K P Q : Nat} {x y z v u : Int32} {nt : Bool}
theorem cuA_cuA : cutAs c (cutAs m D N) E = cutAs c D E := cuA_cg (fun j k h1 h2 => cuA_r h1 h2)
theorem InV_cuA (hV : InV C D) : InV C (cutAs c D N) := hV
theorem Rel_cuA0 (hR : Rel C b D X) (h2 : D 14 2 = 0) : Rel C b (cutAs 0 D N) X := Rel_lo hR (fun j k hj => by
  by_cases e : j = 14 ∧ k = 2
  · rw [e.1, e.2, cuA_2, h2]; rfl
  · exact cuA_r (by omega) (by omega))
theorem cuA_same (h : cutAs m D N = cutAs n E N) (h2 : D 14 2 = 0) (h3 : E 14 2 = 0) (hj : j < 16) : D j k = E j k := by
  by_cases e : j = 14 ∧ k = 2
  · rw [e.1, e.2, h2, h3]
  · have := congrFun (congrFun h j) k
    rw [cuA_r (by omega) (by omega), cuA_r (by omega) (by omega)] at this
    exact this
theorem t_line (h : Lay M) (hM : MCfg C X) (hb : b ≤ 2140) (hB : CB C) (hU : RuleAs C R X) (hR : Rel C b D X) (hI : Inv C L D) (hV : InV C D) (hL : L + 8 < 1000000) (hLk : X 0 22 = i3 b → Lk D X) (hf : 1100 < fu) (hg : g ≤ 255) (hk : k < 6) (hq : q + 3 < 200)
    (l0 : X 92 q = i3 k) (l1 : X 92 (q + 1) = x) (l2 : X 92 (q + 2) = y) (l3 : X 92 (q + 3) = i3 g) (h2 : D 14 2 = 0) (hE : InE D P K) (hP : P + 12 ≤ 288) (h6 : X 95 (b + 6) = i3 P) :
    ∃ X' P' K', F_X12_doesLine fu 0 (i3 b) (i3 q) (mmb X M) = some (bz (didT C R a true D k x y (i3 g)).1, mmb X' M) ∧ Rel C b (didT C R a true D k x y (i3 g)).2 X' ∧ MCfg C X' ∧ Fm b X X' ∧ (X' 0 22 = i3 b → Lk (didT C R a true D k x y (i3 g)).2 X') ∧
      InE (didT C R a true D k x y (i3 g)).2 P' K' ∧ X' 95 (b + 6) = i3 P' := by
  have hI0 : Inv C L (cutAs 0 D (fun _ _ => 0)) := Inv_cuA hI (by omega)
  have hE0 : InE (cutAs 0 D (fun _ _ => 0)) 0 0 := ⟨by omega, by omega, rfl, rfl, fun p hp => absurd hp (Nat.not_lt_zero _), fun m hm => absurd hm (Nat.not_lt_zero _), fun m n hm => absurd hm (Nat.not_lt_zero _), fun m hm => absurd hm (Nat.not_lt_zero _)⟩
  obtain ⟨d1, q1, K1, u1, u2, u3, u4, u5⟩ := Om_did (R := R) (a := a) (k := k) (x := x) (y := y) (v := i3 g) (N := fun _ _ => 0) (c := 1000) hB hI hV hL h2 hE hP (by omega) (by omega)
  obtain ⟨d2, q2, K2, v1, v2, v3, v4, v5⟩ := Om_did (R := R) (a := a) (k := k) (x := x) (y := y) (v := i3 g) (N := fun _ _ => 0) (c := 1000) hB hI0 (InV_cuA hV) hL cuA_2 hE0 (by omega) (by omega) (by omega)
  rw [cuA_cuA] at v5
  obtain ⟨X', w1, w2⟩ := t_does (fu := fu) (M := M) (a := a) (R := R) h hM hb hB hU (Rel_cuA0 (N := fun _ _ => 0) hR h2) hI0 (InV_cuA hV) hL (fun e => Lk_cg (hLk e) rfl rfl) hf hg hk hq l0 l1 l2 l3 true
  rcases u5 with ⟨-, u6⟩ | ⟨u6, -⟩
  · rcases v5 with ⟨-, v6⟩ | ⟨v6, -⟩
    · rw [u6] at v6
      generalize didT C R a true D k x y (i3 g) = r1 at *
      generalize didT C R a true (cutAs 0 D (fun _ _ => 0)) k x y (i3 g) = r2 at *
      injection v6 with a1 a2
      have eq : q1 = q2 := by
        have := congrFun (congrFun a2 14) 2
        rw [cuA_2, cuA_2] at this
        have := (i3_eq (by omega) (by omega)).mp this
        omega
      obtain ⟨p1, p2, p3, p4, c, p5, p6⟩ := w2
      have hc := p6 rfl 0 rfl (by omega)
      rw [v2.2.2.1] at hc
      have hcq := (i3_eq (by omega) (by omega)).mp hc
      have hag : ∀ j k, j < 16 → r1.2 j k = r2.2 j k := fun j k hj => cuA_same a2 u4 v4 hj
      refine ⟨X', P + q1, K1, by rw [a1]; exact w1, Rel_lo p1 hag, p2, p3, fun e => Lk_cg (p4 e) (hag 15 5 (by omega)) (hag 15 6 (by omega)), u2, ?_⟩
      rw [p5, h6, i3_add]
      congr 1
      omega
    · omega
  · omega
end
