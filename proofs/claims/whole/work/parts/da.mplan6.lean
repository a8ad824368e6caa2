/-! ===== a PLAN, read: the reference ===== -/
section
variable {M M' M1 N N' N1 : xM} {X Y Y' Y1 : xT} {f : Nat → Nat} {fu l t T n i j k d s x a b w F e m g lo hi p : Nat} {c ls : List Nat} {q : Nat × Nat} {u v y0 : Int32} {nm : Nat → List Nat} {S S' : plS} {y : Int64} {C : xC}
theorem st20_F (h : LnX f t T q Y N) (h0 : q.1 ≠ 0) : L_X12_store_20 fu (l + 1) 0 (mmb Y N) = J_X12_store_52 fu 0 (mmb Y N) := by
  conv => lhs; unfold L_X12_store_20
  rw [if_pos (by rw [x8_0 h]; exact h0)]
theorem st20_0 (h : LnX f t T (0, i) Y N) : L_X12_store_20 fu (l + 1) 0 (mmb Y N) = if tkT f t (tS f t i) = 0 then J_X12_store_52 fu 0 (mmb Y N) else (F_X12_readLine fu 0 (mmb Y N)).bind fun p_2 => (F_X12_takeSign fu 0 59 p_2).bind fun p_3 => L_X12_store_20 fu l 0 p_3 := by
  have hL := h.1.1
  have h7 : Y 0 7 = i3 i := h.1.2.2.2.2.2.2.2.2.2.1
  have hi : i ≤ T := h.1.2.2.2.2.2.2.2.2.2.2.1
  have hTt := h.1.2.2.2.2.1
  have ht := h.1.2.2.2.2.2.1
  obtain ⟨e88', e89⟩ := AtX_88 h.1
  have e88 : Y 88 i = i3 (tkT f t (tS f t i)) := e88'
  have hT5 : tkT f t (tS f t i) ≤ 4 := tkT_le
  conv => lhs; unfold L_X12_store_20
  rw [if_neg (by rw [x8_0 h]; exact fun z => z rfl), gR_mmb, l12_0_4 hL]
  simp only [Option.bind_some, gN_mmb]
  rw [n20_88 hL, m_0, h7, xin_i3 (show i < 1002 by omega) (by omega), gd_t, xi_i3 (by omega), m_88, e88]
  by_cases c0 : tkT f t (tS f t i) = 0
  · rw [if_pos (show i3 (tkT f t (tS f t i)) = 0 by rw [c0]; rfl), if_pos c0]
  · rw [if_neg (show ¬ i3 (tkT f t (tS f t i)) = 0 from fun z => c0 ((i3_eq (b := 0) (by omega) (by omega)).mp z)), if_neg c0]
theorem t_sloop (hT0 : tS f t T = t) (ht : t ≤ 1000) (hT : T ≤ 1000) (hf : 1100 < fu) : ∀ m i S l Y N, T < i + m → i ≤ T → m < l → LnX f t T (0, i) Y N → PlX S Y N → PlOk S →
    ∃ Y' N', L_X12_store_20 fu l 0 (mmb Y N) = J_X12_store_52 fu 0 (mmb Y' N') ∧ LnX f t T ((plP f t m S i).1, (plP f t m S i).2.1) Y' N' ∧ PxF Y Y' ∧ PnN N N' ∧ ((plP f t m S i).1 = 0 → PlX (plP f t m S i).2.2 Y' N') := by
  intro m
  induction m with
  | zero => intro i S l Y N h1 h2; omega
  | succ m ih =>
    intro i S l Y N him hiT hl h hP hO
    obtain ⟨l, rfl⟩ : ∃ k, l = k + 1 := ⟨l - 1, by omega⟩
    rw [st20_0 h]
    unfold plP
    by_cases c : tkT f t (tS f t i) = 0
    · rw [if_pos c, if_pos c]
      exact ⟨Y, N, rfl, h, PxF_rf, PnN_rf, fun _ => hP⟩
    · rw [if_neg c, if_neg c]
      obtain ⟨l, rfl⟩ : ∃ k, l = k + 1 := ⟨l - 1, by omega⟩
      have hlt := tok_lt hT0 hiT c
      obtain ⟨Y1, N1, r1, r2, r3, r4, r5⟩ := t_pline (fu := fu) h hP hO hlt hT0 ht hT hf
      have hok := plLn_ok (f := f) (t := t) hO hT0 hT hlt
      have hgt := plLn_gt (f := f) (t := t) (S := S) hT0 hlt
      rw [r1]
      simp only [Option.bind_some]
      generalize plLn f t S i = p at r2 r5 hok hgt ⊢
      by_cases p0 : p.1 = 0
      · obtain ⟨ok1, ok2⟩ := hok p0
        have hg := hgt p0
        have r2' : LnX f t T (0, p.2.1) Y1 N1 := by
          have e : (p.1, p.2.1) = (0, p.2.1) := by rw [p0]
          rw [← e]; exact r2
        obtain ⟨Y2, u1, u2, u3⟩ := t_takeSg (fu := fu) (w := 59) r2' ok2 hT0 ht (by omega)
        rw [if_pos p0, show F_X12_takeSign fu 0 59 (mmb Y1 N1) = _ from u1]
        simp only [Option.bind_some]
        have hP2 := PlX_x (r5 p0) u3
        have gi := tkSg_i (f := f) (t := t) (i := p.2.1) (w := 59)
        have gT := tkSg_T (f := f) (w := 59) hT0 ok2
        have hF2 : PxF Y Y2 := PxF_tr r3 (PxF_xn u3)
        generalize tkSg f t p.2.1 59 = g at u2 gi gT ⊢
        by_cases g0 : g.1 = 0
        · rw [if_pos g0]
          have u2' : LnX f t T (0, g.2) Y2 N1 := by
            have e : g = (0, g.2) := by rw [← g0]
            rw [← e]; exact u2
          obtain ⟨Y3, N3, v1, v2, v3, v4, v5⟩ := ih g.2 p.2.2 (l + 1) Y2 N1 (by omega) (by omega) (by omega) u2' hP2 ok1
          exact ⟨Y3, N3, v1, v2, PxF_tr hF2 v3, PnN_tr r4 v4, v5⟩
        · rw [if_neg g0]
          exact ⟨Y2, N1, st20_F u2 g0, u2, hF2, r4, fun z => absurd z g0⟩
      · rw [if_neg p0, t_takeSgF r2 p0]
        simp only [Option.bind_some]
        exact ⟨Y1, N1, st20_F r2 p0, r2, r3, r4, fun z => absurd z p0⟩
/-- the plan that stands as always, at 20 -/
def saX (Y : xT) : xT := fun j k => if j = 90 ∧ 20 ≤ k ∧ k < 40 then (if k = 24 then -1 else 0) else Y j k
theorem t_always (h : Lay N) (hf : 100 < fu) : F_X12_standsAsAlways fu 0 20 (mmb Y N) = some (mmb (saX Y) N) := by
  have key := lpc (fun l k (x : xT) => L_X12_standsAsAlways_2 fu l 0 20 (i3 k) (mmb x N)) (fun k => (fun a b => if a = 90 ∧ 20 ≤ b ∧ b < 20 + k then 0 else Y a b)) 20 (some (mmb (saX Y) N)) ?_ ?_ fu 0 (by omega) (by omega)
  · have e0 : (fun a b => if a = 90 ∧ 20 ≤ b ∧ b < 20 + 0 then 0 else Y a b : xT) = Y := by
      funext a b
      rw [if_neg (by omega)]
    simp only [e0] at key
    exact key
  · intro l k hk
    show L_X12_standsAsAlways_2 fu (l + 1) 0 20 (i3 k) (mmb (fun a b => if a = 90 ∧ 20 ≤ b ∧ b < 20 + k then 0 else Y a b) N) = L_X12_standsAsAlways_2 fu l 0 20 (i3 (k + 1)) (mmb (fun a b => if a = 90 ∧ 20 ≤ b ∧ b < 20 + (k + 1) then 0 else Y a b) N)
    conv => lhs; unfold L_X12_standsAsAlways_2
    rw [if_neg (show ¬ (20 : Int32) ≤ i3 k from fun q => by have := (i3_le (a := 20) (by omega) (by omega)).mp q; omega), gr10 h]
    simp only [Option.bind_some]
    rw [show (20 : Int32) + i3 k = i3 (20 + k) from i3_add 20 k, gd90 h (by omega), xi_i3 (by omega), p_90, i3_add1]
    congr 2
    funext a b
    rw [up_at]
    by_cases c : a = 90 ∧ b = 20 + k
    · rw [if_pos c, if_pos (by omega)]
    · rw [if_neg c]
      by_cases c2 : a = 90 ∧ 20 ≤ b ∧ b < 20 + k
      · rw [if_pos c2, if_pos (by omega)]
      · rw [if_neg c2, if_neg (by omega)]
  · intro l
    show L_X12_standsAsAlways_2 fu (l + 1) 0 20 (i3 20) (mmb (fun a b => if a = 90 ∧ 20 ≤ b ∧ b < 20 + 20 then 0 else Y a b) N) = _
    conv => lhs; unfold L_X12_standsAsAlways_2
    rw [if_pos (show (20 : Int32) ≤ i3 20 from Int32.le_refl _), gr10 h]
    simp only [Option.bind_some]
    rw [show (20 : Int32) + 4 = i3 24 from by decide, gd90 h (by omega), xi_i3 (by omega), p_90]
    congr 2
    funext a b
    rw [up_at]
    unfold saX
    by_cases c : a = 90 ∧ b = 24
    · rw [if_pos c, if_pos (by omega), if_pos c.2]
    · rw [if_neg c]
      by_cases c2 : a = 90 ∧ 20 ≤ b ∧ b < 40
      · rw [if_pos (by omega), if_pos c2, if_neg (by omega)]
      · rw [if_neg (by omega), if_neg c2]
theorem PlX_0 (h12 : Y 0 12 = 0) : PlX plS0 (saX Y) N := by
  have e : ∀ k, 20 ≤ k → k < 40 → k ≠ 24 → saX Y 90 k = 0 := fun k h1 h2 h3 => by
    unfold saX
    rw [if_pos ⟨rfl, h1, h2⟩, if_neg h3]
  refine ⟨fun j hj => e _ (by omega) (by omega) (by omega), e _ (by omega) (by omega) (by omega), fun k hk => absurd hk (Nat.not_lt_zero _), fun _ => ⟨?_, ?_⟩, fun z => absurd z (by decide)⟩
  · unfold saX
    rw [if_pos (by omega), if_pos rfl]
  · unfold saX
    rw [if_neg (by omega)]; exact h12
end
