/-! ===== the rule's E, read: the reference ===== -/
/-- the reference, so far read -/
def MdS (f : Nat → Nat) (t T : Nat) (q : Nat × Nat × List Nat) (Y : xT) (N : xM) : Prop := AtX f t T q.2.1 (i3 q.1) Y N ∧ q.1 < 20000 ∧ Y 0 12 = i3 q.2.2.length ∧ ∀ k, k < q.2.2.length → Y 91 (1100 + k) = i3 (q.2.2.getD k 0)
/-- what it leaves alone -/
def XdF (Y Y' : xT) : Prop := ∀ j k, (j ≠ 0 ∨ k ≠ 7 ∧ k ≠ 8 ∧ k ≠ 12) → (j ≠ 91 ∨ k < 1100) → Y' j k = Y j k
def MdR (f : Nat → Nat) (t T : Nat) (N : xM) (F : Nat → Int32 → xM → Option xM) (r : Nat → List Nat → Nat × Nat × List Nat) (dd : Int32) : Prop :=
  ∀ i c Y, i ≤ T → c.length ≤ i → MdS f t T (0, i, c) Y N → ∃ Y', F 0 dd (mmb Y N) = some (mmb Y' N) ∧ MdS f t T (r i c) Y' N ∧ XdF Y Y'
section
variable {M M' M1 M2 N : xM} {X Y Y' Y1 Z : xT} {f : Nat → Nat} {fu l t T n i j k d s x a b w : Nat} {c : List Nat} {q : Nat × Nat × List Nat} {r : Nat → List Nat → Nat × Nat × List Nat} {jn : Nat → Option Nat} {u v dd x3 : Int32} {F : Nat → Int32 → xM → Option xM}
theorem up_self : up X j k (X j k) = X := by
  funext j' k'
  rw [up_at]
  by_cases q : j' = j ∧ k' = k
  · rw [if_pos q, q.1, q.2]
  · rw [if_neg q]
theorem XdF_rf : XdF Y Y := fun _ _ _ _ => rfl
theorem XdF_tr (h : XdF Y Y1) (h2 : XdF Y1 Y') : XdF Y Y' := fun j k a b => (h2 j k a b).trans (h j k a b)
theorem AtX_cg (h : AtX f t T i v Y N) (h88 : ∀ k, Y' 88 k = Y 88 k) (h89 : ∀ k, Y' 89 k = Y 89 k) (h7 : Y' 0 7 = i3 j) (hj : j ≤ T) (h8 : Y' 0 8 = u) : AtX f t T j u Y' N := by
  obtain ⟨g1, g2, g3, g4, g5, g6, g7, g8, g9, g10, g11, g12⟩ := h
  refine ⟨g1, g2, fun k hk => ?_, g4, g5, g6, g7, (h88 _).trans g8, (h89 _).trans g9, h7, hj, h8⟩
  obtain ⟨a1, a2, a3, a4⟩ := g3 k hk
  exact ⟨a1, (h88 _).trans a2, (h89 _).trans a3, a4⟩
theorem MdS_nx (h : MdS f t T (0, i, c) Y N) (hi : i < T) : MdS f t T (0, i + 1, c) (up Y 0 7 (i3 (i + 1))) N ∧ XdF Y (up Y 0 7 (i3 (i + 1))) := by
  obtain ⟨h1, h2, h3, h4⟩ := h
  refine ⟨⟨AtX_cg h1 (fun k => up_ne (by omega)) (fun k => up_ne (by omega)) up_eq hi ((up_ne (by omega)).trans h1.2.2.2.2.2.2.2.2.2.2.2), h2, (up_ne (by omega)).trans h3, fun k hk => (up_ne (by omega)).trans (h4 k hk)⟩, fun j k a b => up_ne (by omega)⟩
/-- a sign had: on -/
theorem t_hasSign (h : MdS f t T q Y N) (h0 : q.1 = 0) (hw : w ≤ 126) : F_X12_hasSign fu 0 (i3 w) (mmb Y N) = some (bz (sgB f t (tS f t q.2.1) w), mmb (if sgB f t (tS f t q.2.1) w = true then up Y 0 7 (i3 (q.2.1 + 1)) else Y) N) := by
  have h7 := h.1.2.2.2.2.2.2.2.2.2.1
  have es := t_isSign (fu := fu) h.1 (by rw [h0]; rfl) hw
  unfold F_X12_hasSign
  rw [es]
  simp only [Option.bind_some, bz_0]
  cases sgB f t (tS f t q.2.1) w with
  | true => rw [if_neg (by decide), m_0, h7, i3_add1, p_0, gd_bz, if_pos rfl]
  | false =>
    rw [if_pos rfl, m_0, p_0, gd_bz, if_neg (by decide), Int32.add_zero, up_self]
theorem t_hasSignF (h : MdS f t T q Y N) (h0 : q.1 ≠ 0) : F_X12_hasSign fu 0 u (mmb Y N) = some (0, mmb Y N) := by
  have hv : i3 q.1 ≠ 0 := fun z => h0 ((i3_eq (b := 0) (by have := h.2.1; omega) (by omega)).mp z)
  unfold F_X12_hasSign
  rw [t_isSignF h.1 hv]
  simp only [Option.bind_some]
  rw [if_pos trivial, m_0, p_0, xb_f, gd_t, Int32.add_zero, up_self]
theorem emit_m (h : MdS f t T q Y N) (hl : q.2.2.length < 1000) (hx : w + 16 * b = x) : ∃ Y', F_X12_emit fu 0 (i3 w) (i3 b) (mmb Y N) = some (mmb Y' N) ∧ MdS f t T (pEm q x) Y' N ∧ XdF Y Y' := by
  obtain ⟨h1, h2, h3, h4⟩ := h
  have hL := h1.1
  have e12 : up Y 91 (1100 + q.2.2.length) (i3 x) 0 12 = i3 q.2.2.length := (up_ne (by omega)).trans h3
  refine ⟨up (up Y 91 (1100 + q.2.2.length) (i3 x)) 0 12 (i3 (q.2.2.length + 1)), ?_, ⟨AtX_cg h1 (fun k => by rw [up_ne (by omega), up_ne (by omega)]) (fun k => by rw [up_ne (by omega), up_ne (by omega)]) (by rw [up_ne (by omega), up_ne (by omega)]; exact h1.2.2.2.2.2.2.2.2.2.1) h1.2.2.2.2.2.2.2.2.2.2.1 (by rw [up_ne (by omega), up_ne (by omega)]; exact h1.2.2.2.2.2.2.2.2.2.2.2), h2, ?_, fun k hk => ?_⟩, fun j k a b => by rw [up_ne (by omega), up_ne (by omega)]⟩
  · unfold F_X12_emit
    rw [gR_mmb, l12_0_11 hL]
    simp only [Option.bind_some, gN_mmb]
    rw [n20_91 hL, m_0, h3, show (1100 : Int32) + i3 q.2.2.length = i3 (1100 + q.2.2.length) by rw [show (1100 : Int32) = i3 1100 from rfl, i3_add], xin_i3 (show 1100 + q.2.2.length < 2200 by omega) (by omega), gd_t, xi_i3 (by omega), p_91, show (16 : Int32) = i3 16 from rfl, i3_mul, i3_add, hx, m_0, e12, i3_add1, p_0]
  · rw [up_eq]
    show i3 (q.2.2.length + 1) = i3 (q.2.2 ++ [x]).length
    rw [len_s]
  · have hk' : k < (q.2.2 ++ [x]).length := hk
    rw [len_s] at hk'
    rw [up_ne (by omega), up_at]
    show _ = i3 ((q.2.2 ++ [x]).getD k 0)
    by_cases z : k = q.2.2.length
    · rw [if_pos ⟨rfl, by omega⟩, z, List.getD_eq_getElem?_getD, List.getElem?_append_right (Nat.le_refl _), Nat.sub_self]
      rfl
    · rw [if_neg (by omega), h4 k (by omega), List.getD_eq_getElem?_getD, List.getD_eq_getElem?_getD, List.getElem?_append_left (by omega)]
/-- behind a joint that was taken -/
theorem itr_m (hr : MdR f t T N F r dd) (hB : pB T r) (hT : T ≤ 1000) (h : MdS f t T q Y N) (h0 : q.1 = 0) (hi : q.2.1 < T) (hc : q.2.2.length ≤ q.2.1) (hx : w + 16 * 0 = x) :
    ∃ Y2 Y3, F 0 dd (mmb (up Y 0 7 (i3 (q.2.1 + 1))) N) = some (mmb Y2 N) ∧ F_X12_emit fu 0 (i3 w) 0 (mmb Y2 N) = some (mmb Y3 N) ∧ MdS f t T (pEm (r (q.2.1 + 1) q.2.2) x) Y3 N ∧ XdF Y Y3 := by
  obtain ⟨q0, qi, qc⟩ := q
  have h0' : q0 = 0 := h0
  subst h0'
  obtain ⟨r1, r2⟩ := MdS_nx h hi
  have hc' : qc.length ≤ qi := hc
  obtain ⟨Y2, s1, s2, s3⟩ := hr (qi + 1) qc _ hi (by omega) r1
  obtain ⟨z1, z2, z3⟩ := hB (qi + 1) qc 1 hi (by omega)
  obtain ⟨Y3, u1, u2, u3⟩ := emit_m (fu := fu) (w := w) (b := 0) s2 (by show (r (qi + 1) qc).2.2.length < 1000; omega) hx
  exact ⟨Y2, Y3, s1, u1, u2, XdF_tr r2 (XdF_tr s3 u3)⟩
theorem t_proL (hT0 : tS f t T = t) (hr : MdR f t T N F r dd) (hB : pB T r) (hT : T ≤ 1000) : ∀ n l q Y, T ≤ q.2.1 + n → n < l → MdS f t T q Y N → q.2.1 ≤ T → q.2.2.length ≤ q.2.1 →
    ∃ Y', L_X12_products_5 fu F l 0 dd (mmb Y N) = some (mmb Y' N) ∧ MdS f t T (pLoop (jMul f t) r n q) Y' N ∧ XdF Y Y' := by
  intro n
  have stop : ∀ l q Y, MdS f t T q Y N → (q.1 ≠ 0 ∨ sgB f t (tS f t q.2.1) 42 = false) → L_X12_products_5 fu F (l + 1) 0 dd (mmb Y N) = some (mmb Y N) := fun l q Y h hs => by
    conv => lhs; unfold L_X12_products_5
    by_cases q0 : q.1 = 0
    · have es := hs.resolve_left (fun z => z q0)
      rw [show F_X12_hasSign fu 0 42 (mmb Y N) = _ from t_hasSign (w := 42) h q0 (by omega), es]
      rfl
    · rw [t_hasSignF h q0]
      rfl
  induction n with
  | zero =>
    intro l q Y hn hl h hi hc
    obtain ⟨l, rfl⟩ : ∃ k, l = k + 1 := ⟨l - 1, by omega⟩
    refine ⟨Y, stop l q Y h ?_, h, XdF_rf⟩
    cases e : sgB f t (tS f t q.2.1) 42 with
    | false => exact Or.inr rfl
    | true => have := sg_lt hT0 hi e; omega
  | succ n ih =>
    intro l q Y hn hl h hi hc
    obtain ⟨l, rfl⟩ : ∃ k, l = k + 1 := ⟨l - 1, by omega⟩
    by_cases q0 : q.1 = 0
    · cases e : sgB f t (tS f t q.2.1) 42 with
      | false =>
        have hnn : jMul f t q.2.1 = none := by unfold jMul; rw [e, if_neg (by decide)]
        rw [pLoop_n q0 hnn]
        exact ⟨Y, stop l q Y h (Or.inr e), h, XdF_rf⟩
      | true =>
        have hj : jMul f t q.2.1 = some 6 := by unfold jMul; rw [e, if_pos rfl]
        have hlt := sg_lt hT0 hi e
        rw [pLoop_j q0 hj]
        obtain ⟨Y2, Y3, r1, r2, r3, r4⟩ := itr_m (fu := fu) (w := 6) (x := 6) hr hB hT h q0 hlt hc (by omega)
        obtain ⟨b1, b2⟩ := pEm_b (x := 6) hB hlt hc
        obtain ⟨z1, z2, z3⟩ := hB (q.2.1 + 1) q.2.2 0 hlt (by omega)
        obtain ⟨Y', s1, s2, s3⟩ := ih l (pEm (r (q.2.1 + 1) q.2.2) 6) Y3 (by show T ≤ (r (q.2.1 + 1) q.2.2).2.1 + n; omega) (by omega) r3 b1 b2
        refine ⟨Y', ?_, s2, XdF_tr r4 s3⟩
        conv => lhs; unfold L_X12_products_5
        rw [show F_X12_hasSign fu 0 42 (mmb Y N) = _ from t_hasSign (w := 42) h q0 (by omega), e]
        simp only [Option.bind_some]
        rw [if_neg (show ¬ bz true = 0 from by decide), if_pos trivial, r1]
        simp only [Option.bind_some]
        rw [show F_X12_emit fu 0 6 0 (mmb Y2 N) = _ from r2]
        simp only [Option.bind_some]
        exact s1
    · rw [pLoop_f q0]
      exact ⟨Y, stop l q Y h (Or.inl q0), h, XdF_rf⟩
theorem MdR_pro (hf : 1100 < fu) (hT0 : tS f t T = t) (hr : MdR f t T N F r dd) (hB : pB T r) (hT : T ≤ 1000) : MdR f t T N (F_X12_products fu F) (pPro f t r) dd := by
  intro i c Y hi hc h
  obtain ⟨Y1, r1, r2, r3⟩ := hr i c Y hi hc h
  obtain ⟨z1, z2, z3⟩ := hB i c 0 hi (by omega)
  obtain ⟨Y', s1, s2, s3⟩ := t_proL (fu := fu) hT0 hr hB hT 1000 fu (r i c) Y1 (by omega) (by omega) r2 z2 (by omega)
  refine ⟨Y', ?_, s2, XdF_tr r3 s3⟩
  unfold F_X12_products
  rw [r1]
  simp only [Option.bind_some]
  exact s1
end
