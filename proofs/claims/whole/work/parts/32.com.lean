/-! ===== commit, write ===== -/
section
variable {M : xM} {D : xT} {C : xC} {R : Nat → Int32} {d fu nb nw a : Nat}
theorem filR_spec (s : Nat) : ∀ (k cnt at' : Nat) (E : xT), at' + k = 20 → cnt ≤ 4 →
    cnt ≤ (filR s k cnt at' E).1 ∧ (filR s k cnt at' E).1 ≤ 4 ∧ (filR s k cnt at' E).2.1 ≤ 20 ∧ (∀ j x, j ≠ 7 ∧ j ≠ 8 → (filR s k cnt at' E).2.2 j x = E j x) ∧
    (∀ j x, x < s * 4 + cnt ∨ s * 4 + 4 ≤ x → (filR s k cnt at' E).2.2 j x = E j x) ∧ ∀ n, cnt ≤ n → n < (filR s k cnt at' E).1 → ∃ z, z < 20 ∧ (filR s k cnt at' E).2.2 7 (s * 4 + n) = i3 z
  | 0, cnt, at', E, hk, hc => by
    unfold filR
    exact ⟨Nat.le_refl _, hc, by show at' ≤ 20; omega, fun j x _ => rfl, fun j x _ => rfl, fun n h1 h2 => absurd h2 (by show ¬ n < cnt; omega)⟩
  | k + 1, cnt, at', E, hk, hc => by
    unfold filR
    by_cases c : 4 ≤ cnt
    · rw [if_pos c]
      exact ⟨Nat.le_refl _, hc, by show at' ≤ 20; omega, fun j x _ => rfl, fun j x _ => rfl, fun n h1 h2 => absurd h2 (by show ¬ n < cnt; omega)⟩
    · rw [if_neg c]
      cases e : keptT E at' with
      | false =>
        simp only [Bool.false_eq_true, if_false]
        exact filR_spec s k cnt (at' + 1) E (by omega) hc
      | true =>
        simp only [if_true]
        have ih := filR_spec s k (cnt + 1) (at' + 1) (up (up E 7 (s * 4 + cnt) (i3 at')) 8 (s * 4 + cnt) (E 9 at')) (by omega) (by omega)
        obtain ⟨h1, h2, h3, h4, h5, h6⟩ := ih
        refine ⟨by omega, h2, h3, fun j x hj => ?_, fun j x hx => ?_, fun n g1 g2 => ?_⟩
        · rw [h4 j x hj, up_ne (by omega), up_ne (by omega)]
        · rw [h5 j x (by omega), up_ne (by omega), up_ne (by omega)]
        · rcases Nat.lt_or_ge cnt n with q | q
          · exact h6 n q g2
          · have : n = cnt := by omega
            subst this
            rw [h5 7 _ (by omega), up_ne (by omega), up_eq]
            exact ⟨at', by omega, rfl⟩
theorem fillT_lo {s j x : Nat} {k q f p v : Int32} (h : j < 2 ∨ 6 < j ∨ x ≠ s) : fillT D s k q f p v j x = D j x := by
  unfold fillT
  rw [up_ne (by omega), up_ne (by omega), up_ne (by omega), up_ne (by omega), up_ne (by omega)]
theorem fillT_2 {s : Nat} {k q f p v : Int32} : fillT D s k q f p v 2 s = k := by unfold fillT; simp [up_at]
theorem fillT_3 {s : Nat} {k q f p v : Int32} : fillT D s k q f p v 3 s = q := by unfold fillT; simp [up_at]
theorem fillT_4 {s : Nat} {k q f p v : Int32} : fillT D s k q f p v 4 s = f := by unfold fillT; simp [up_at]
theorem fillT_5 {s : Nat} {k q f p v : Int32} : fillT D s k q f p v 5 s = p := by unfold fillT; simp [up_at]
theorem fillT_6 {s : Nat} {k q f p v : Int32} : fillT D s k q f p v 6 s = v := by unfold fillT; simp [up_at]
theorem Ok_fill {s : Nat} {k q f p v : Int32} (hO : Ok nb nw D) (h : (k = 1 → ∃ f' p', f' < 5 ∧ p' < 4 ∧ f = i3 f' ∧ p = i3 p') ∧ (k = 2 → ∃ f', f' < 5 ∧ f = i3 f') ∧ (k = 3 → ∀ n, n < 4 → i3 n < v → ∃ z, z < 20 ∧ D 7 (s * 4 + n) = i3 z)) : Ok nb nw (fillT D s k q f p v) := by
  obtain ⟨o1, o2, o3, o4, o5, o6, o7⟩ := hO
  refine ⟨o1, o2, ?_, ?_, ?_, ?_, ?_⟩
  · rw [fillT_lo (by omega)]; exact o3
  · rw [fillT_lo (by omega)]; exact o4
  · rw [fillT_lo (by omega)]; exact o5
  · rw [fillT_lo (by omega)]; exact o6
  · intro x hx
    by_cases c : x = s
    · subst c
      rw [fillT_2, fillT_4, fillT_5, fillT_6]
      refine ⟨h.1, h.2.1, fun e n hn hl => ?_⟩
      rw [fillT_lo (by omega)]
      exact h.2.2 e n hn hl
    · have := o7 x hx
      rw [fillT_lo (by omega), fillT_lo (by omega), fillT_lo (by omega), fillT_lo (by omega)]
      refine ⟨this.1, this.2.1, fun a n hn hl => ?_⟩
      rw [fillT_lo (by omega)]
      exact this.2.2 a n hn hl
theorem Okd_fill {s : Nat} {k q f p v : Int32} (hO : Okd d nb nw D) (h : (k = 1 → ∃ f' p', f' < 5 ∧ p' < 4 ∧ f = i3 f' ∧ p = i3 p') ∧ (k = 2 → ∃ f', f' < 5 ∧ f = i3 f') ∧ (k = 3 → ∀ n, n < 4 → i3 n < v → ∃ z, z < 20 ∧ D 7 (s * 4 + n) = i3 z)) : Okd d nb nw (fillT D s k q f p v) :=
  ⟨Ok_fill hO.1 h, fun q => OkE_congr (hO.2 q) (fun k => fillT_lo (by omega))⟩
theorem Ok_fil {s k cnt at' : Nat} (hk : at' + k = 20) (hc : cnt ≤ 4) (hs : s < 36) (hk0 : D 2 s = 0) (hO : Ok nb nw D) : Ok nb nw (filR s k cnt at' D).2.2 := by
  obtain ⟨-, -, -, h4, h5, -⟩ := filR_spec s k cnt at' D hk hc
  obtain ⟨o1, o2, o3, o4, o5, o6, o7⟩ := hO
  refine ⟨o1, o2, ?_, ?_, ?_, ?_, ?_⟩
  · rw [h4 _ _ (by omega)]; exact o3
  · rw [h4 _ _ (by omega)]; exact o4
  · rw [h4 _ _ (by omega)]; exact o5
  · rw [h4 _ _ (by omega)]; exact o6
  · intro x hx
    have := o7 x hx
    rw [h4 2 _ (by omega), h4 4 _ (by omega), h4 5 _ (by omega), h4 6 _ (by omega)]
    refine ⟨this.1, this.2.1, fun e n hn hl => ?_⟩
    have : x ≠ s := fun q => by rw [q, hk0] at e; exact absurd e (by decide)
    rw [h5 7 _ (by omega)]
    exact (o7 x hx).2.2 e n hn hl
theorem fillPartT_ok {s part parts at' : Nat} (hat : at' ≤ 20) (hs : s < 36) (hk0 : D 2 s = 0) (hO : Okd d nb nw D) : Okd d nb nw (fillPartT D s part parts at').2 ∧ (fillPartT D s part parts at').1 ≤ 20 := by
  obtain ⟨h1, h2, h3, h4, h5, h6⟩ := filR_spec s (20 - at') 0 at' D (by omega) (by omega)
  unfold fillPartT
  refine ⟨Okd_fill ⟨Ok_fil (by omega) (by omega) hs hk0 hO.1, fun q => OkE_congr (hO.2 q) (fun k => h4 _ _ (by omega))⟩ ⟨fun e => absurd e (by decide), fun e => absurd e (by decide), fun _ n hn hl => ?_⟩, h3⟩
  rw [i3_lt (by omega) (by omega)] at hl
  exact h6 n (by omega) hl
/-- a slot that is put into was erased, and still is -/
theorem putT_slot {nt : Bool} (hO : Ok nb nw D) {s : Nat} (e : (putT nt D nb nw).1 = some s) : s < nb * nw ∧ D 2 s = 0 ∧ ∀ j k, (j ≠ 1 ∧ (j < 14 ∨ j = 14 ∧ k ≠ 11 ∧ k ≠ 2 ∨ j = 15 ∧ k ≠ 3 ∧ k ≠ 4 ∨ 24 < j)) → (putT nt D nb nw).2 j k = D j k := by
  have hS := takeT_spec hO
  unfold putT at e ⊢
  generalize takeT D nb nw = t at hS e ⊢
  obtain ⟨o, D1⟩ := t
  cases o with
  | none => cases e
  | some s' =>
    simp only at e ⊢
    by_cases c : putA nt D1 nb nw 14 2 = 1
    · rw [if_pos c] at e; cases e
    · rw [if_neg c] at e ⊢
      injection e with e; subst e
      have h1 := hS.1 s' rfl
      refine ⟨h1.1, h1.2, fun j k hj => ?_⟩
      have h2 : D1 j k = D j k := hS.2.1 j k (by omega)
      simp only
      by_cases c2 : putA nt D1 nb nw 14 2 ≤ 1
      · rw [if_pos c2, putA_lo (by omega), h2]
      · rw [if_neg c2, up_ne (by omega), putA_lo (by omega), h2]
theorem e_filR (h : Lay M) (hd : d < 5) (hf : 100 < fu) {s part parts : Nat} (hs : s < 36) : ∀ (n k cnt at' : Nat) (E : xT), at' + k = 20 → cnt ≤ 4 → k < n →
    L_X2_fillPart_7 fu n d (i3 s) (i3 part) (i3 parts) (i3 cnt) (i3 at') (emb d E M) = some (i3 (filR s k cnt at' E).2.1, emb d (fillT (filR s k cnt at' E).2.2 s 3 ((filR s k cnt at' E).2.2 14 10) (i3 part) (i3 parts) (i3 (filR s k cnt at' E).1)) M)
  | 0, k, cnt, at', E, hk, hc, hn => absurd hn (by omega)
  | n + 1, 0, cnt, at', E, hk, hc, hn => by
    have : at' = 20 := by omega
    subst this
    conv => lhs; unfold L_X2_fillPart_7 J_X2_fillPart_75
    simp (disch := first | assumption | omega) only [l0_7, l0_8, l0_9, l0_10, l0_11, l0_12, l0_13, l0_14, l0_15, l2_0, l2_5, l2_6, l2_7, l2_8, l2_9, l2_12, l2_13, l7_4, l7_5, l7_6, l7_7, l8_0, l8_1, l8_2, l9_1, l9_2, l9_3, l9_4, l4_0_0, l4_0_1, l4_0_2, l4_0_3, l3_0_2, l3_0_3, l3_0_4, l3_0_5, l10_0_0, l1_0_1, l1_0_2, l1_0_3, l1_1_1, l1_1_2, l1_1_3, l1_2_1, l1_2_2, l1_2_3, l5_0_0, l5_0_2, l5_0_3, l5_0_4, l11_0_0, l11_0_5, l11_0_6, l11_0_7, l11_0_8, l11_0_9, l11_0_10, l11_0_11, l11_0_12, l11_0_13, l24_0_0, l24_0_1, l25_0_0, l25_0_1, l12_0_1, l12_0_4, l12_0_5, l12_0_6, l12_0_9, l12_0_10, l12_0_11, l12_0_13, l12_0_14, l12_0_15, l12_0_16, l12_0_17, l12_0_18, l12_0_19, l12_0_23, l12_0_24, l12_0_25, l12_0_27, n_a0, n_a1, n_a2, n_a3, n_a4, n_a5, n_a6, n_a7, n_a8, n_a9, n_a10, n_b0, n_b1, n_b2, n_p0, n_p1, n_p2, n_p3, n_p4, n_s0, n_s1, n_s2, n_s3, n_nm, n20_18, n20_19, n20_20, n20_21, n20_44, n20_45, n20_46, n20_47, n20_48, n20_49, n20_83, n20_84, n20_85, n20_86, n20_87, n20_88, n20_89, n20_90, n20_91, n20_92, n20_93, n20_94, n20_95, n20_96, n20_97, n20_98, n21_2, n21_3, n21_4, n21_5, n21_6, n22_6, n22_7, n22_17, n22_18, n22_19, n22_20, n23_0, n24_0, n25_0, r_a0, w_a0, r_a1, w_a1, r_a2, w_a2, r_a3, w_a3, r_a4, w_a4, r_a5, w_a5, r_a6, w_a6, r_a7, w_a7, r_a8, w_a8, r_a9, w_a9, r_a10, w_a10, r_b0, w_b0, r_b1, w_b1, r_b2, w_b2, r_d, w_d, r_c, w_c, r_e, w_e, r_t, w_t, r_f0, w_f0, r_f1, w_f1, r_f2, w_f2, r_f3, w_f3, r_e0, w_e0, r_e1, w_e1, r_e2, w_e2, r_o7, r_o8, r_o9, r_o10, r_o1, r_o5, r_o6, r_o11, r_o12, r_o21, r_o23, r_p0, r_p1, r_p2, r_s0, r_s1, r_s2, r_s3, i3_add1, i3_add, i3_mul, i3_addl, i3_mull, i3_ladd, i3_lmul, i3_div4, i3_le, i3_lt, i3_eq, i3_lel, i3_lle, i3_ltl, i3_llt, i3_eql, i3_leq, i3_nl, i3_0l, i3_nn, n1_lt, n1_le, xi_i3, xin_i3, xi_lit, xin_lit, xb0, xb1, gd_t, nz4, Option.bind_some, gR_emb, gN_emb, gL_emb, ↓reduceIte, if_true, if_false, not_true_eq_false, not_false_eq_true, eq_self, Nat.not_lt_zero, Nat.zero_le, true_or, or_true, false_or, or_false, true_and, and_true, false_and, and_false, Nat.le_refl, e_fill h hd hs]
    rfl
  | n + 1, k + 1, cnt, at', E, hk, hc, hn => by
    have h20 : at' < 20 := by omega
    conv => lhs; unfold L_X2_fillPart_7 J_X2_fillPart_75
    conv => rhs; unfold filR
    simp (disch := first | assumption | omega) only [l0_7, l0_8, l0_9, l0_10, l0_11, l0_12, l0_13, l0_14, l0_15, l2_0, l2_5, l2_6, l2_7, l2_8, l2_9, l2_12, l2_13, l7_4, l7_5, l7_6, l7_7, l8_0, l8_1, l8_2, l9_1, l9_2, l9_3, l9_4, l4_0_0, l4_0_1, l4_0_2, l4_0_3, l3_0_2, l3_0_3, l3_0_4, l3_0_5, l10_0_0, l1_0_1, l1_0_2, l1_0_3, l1_1_1, l1_1_2, l1_1_3, l1_2_1, l1_2_2, l1_2_3, l5_0_0, l5_0_2, l5_0_3, l5_0_4, l11_0_0, l11_0_5, l11_0_6, l11_0_7, l11_0_8, l11_0_9, l11_0_10, l11_0_11, l11_0_12, l11_0_13, l24_0_0, l24_0_1, l25_0_0, l25_0_1, l12_0_1, l12_0_4, l12_0_5, l12_0_6, l12_0_9, l12_0_10, l12_0_11, l12_0_13, l12_0_14, l12_0_15, l12_0_16, l12_0_17, l12_0_18, l12_0_19, l12_0_23, l12_0_24, l12_0_25, l12_0_27, n_a0, n_a1, n_a2, n_a3, n_a4, n_a5, n_a6, n_a7, n_a8, n_a9, n_a10, n_b0, n_b1, n_b2, n_p0, n_p1, n_p2, n_p3, n_p4, n_s0, n_s1, n_s2, n_s3, n_nm, n20_18, n20_19, n20_20, n20_21, n20_44, n20_45, n20_46, n20_47, n20_48, n20_49, n20_83, n20_84, n20_85, n20_86, n20_87, n20_88, n20_89, n20_90, n20_91, n20_92, n20_93, n20_94, n20_95, n20_96, n20_97, n20_98, n21_2, n21_3, n21_4, n21_5, n21_6, n22_6, n22_7, n22_17, n22_18, n22_19, n22_20, n23_0, n24_0, n25_0, r_a0, w_a0, r_a1, w_a1, r_a2, w_a2, r_a3, w_a3, r_a4, w_a4, r_a5, w_a5, r_a6, w_a6, r_a7, w_a7, r_a8, w_a8, r_a9, w_a9, r_a10, w_a10, r_b0, w_b0, r_b1, w_b1, r_b2, w_b2, r_d, w_d, r_c, w_c, r_e, w_e, r_t, w_t, r_f0, w_f0, r_f1, w_f1, r_f2, w_f2, r_f3, w_f3, r_e0, w_e0, r_e1, w_e1, r_e2, w_e2, r_o7, r_o8, r_o9, r_o10, r_o1, r_o5, r_o6, r_o11, r_o12, r_o21, r_o23, r_p0, r_p1, r_p2, r_s0, r_s1, r_s2, r_s3, i3_add1, i3_add, i3_mul, i3_addl, i3_mull, i3_ladd, i3_lmul, i3_div4, i3_le, i3_lt, i3_eq, i3_lel, i3_lle, i3_ltl, i3_llt, i3_eql, i3_leq, i3_nl, i3_0l, i3_nn, n1_lt, n1_le, xi_i3, xin_i3, xi_lit, xin_lit, xb0, xb1, gd_t, nz4, Option.bind_some, gR_emb, gN_emb, gL_emb, ↓reduceIte, if_true, if_false, not_true_eq_false, not_false_eq_true, eq_self, Nat.not_lt_zero, Nat.zero_le, true_or, or_true, false_or, or_false, true_and, and_true, false_and, and_false, e_fill h hd hs, e_isKept h hd h20, bz_0]
    rw [if_neg (by omega)]
    by_cases c : 4 ≤ cnt
    · simp only [if_pos c]
    · simp only [if_neg c]
      cases e : keptT E at' with
      | false =>
        simp only [if_true, Bool.false_eq_true, if_false]
        exact e_filR h hd hf hs n k cnt (at' + 1) E (by omega) hc (by omega)
      | true =>
        simp only [reduceCtorEq, if_true, if_false]
        have e1 : up E 7 (s * 4 + cnt) (i3 at') 9 at' = E 9 at' := up_ne (by omega)
        rw [e1]
        exact e_filR h hd hf hs n k (cnt + 1) (at' + 1) _ (by omega) (by omega) (by omega)
theorem comR_ok {nt : Bool} {parts : Nat} : ∀ (m part at' : Nat) (E : xT), at' ≤ 20 → Okd d nb nw E → Okd d nb nw (comR nt nb nw parts m part at' E).2
  | 0, part, at', E, hat, hO => Okd_up (Okd_up (Okd_up hO (by omega)) (by omega)) (by omega)
  | m + 1, part, at', E, hat, hO => by
    unfold comR
    have hO2 : Okd d nb nw (up E 14 10 (E 14 10 + 1)) := Okd_up hO (by omega)
    have hP := putT_ok (nt := nt) hO2
    have hS := fun s => putT_slot (nt := nt) (s := s) hO2.1
    have h36 := mul36 hO.1.1 hO.1.2.1
    generalize putT nt (up E 14 10 (E 14 10 + 1)) nb nw = p at hP hS ⊢
    obtain ⟨o, E1⟩ := p
    cases o with
    | none => exact hP.1
    | some s =>
      have h1 := hS s rfl
      have h0 : E1 2 s = 0 := (h1.2.2 2 s (by omega)).trans h1.2.1
      have h2 := fillPartT_ok (part := part) (parts := parts) hat (show s < 36 by omega) h0 hP.1
      exact comR_ok m (part + 1) _ _ h2.2 h2.1
theorem e_comR (h : Lay M) (hd : d < 5) (hf : 300 < fu) {parts : Nat} (hp : parts ≤ 6) : ∀ (n m part at' : Nat) (E : xT), part + m = parts → at' ≤ 20 → m < n → Okd d nb nw E →
    L_X2_commitPages_29 fu n d (i3 parts) (i3 at') (i3 part) (emb d E M) = some ((comR (decide (d = 2)) nb nw parts m part at' E).1, emb d (comR (decide (d = 2)) nb nw parts m part at' E).2 M)
  | 0, m, part, at', E, hm, hat, hn, hO => absurd hn (by omega)
  | n + 1, 0, part, at', E, hm, hat, hn, hO => by
    have : part = parts := by omega
    subst this
    conv => lhs; unfold L_X2_commitPages_29
    simp (disch := first | assumption | omega) only [l0_7, l0_8, l0_9, l0_10, l0_11, l0_12, l0_13, l0_14, l0_15, l2_0, l2_5, l2_6, l2_7, l2_8, l2_9, l2_12, l2_13, l7_4, l7_5, l7_6, l7_7, l8_0, l8_1, l8_2, l9_1, l9_2, l9_3, l9_4, l4_0_0, l4_0_1, l4_0_2, l4_0_3, l3_0_2, l3_0_3, l3_0_4, l3_0_5, l10_0_0, l1_0_1, l1_0_2, l1_0_3, l1_1_1, l1_1_2, l1_1_3, l1_2_1, l1_2_2, l1_2_3, l5_0_0, l5_0_2, l5_0_3, l5_0_4, l11_0_0, l11_0_5, l11_0_6, l11_0_7, l11_0_8, l11_0_9, l11_0_10, l11_0_11, l11_0_12, l11_0_13, l24_0_0, l24_0_1, l25_0_0, l25_0_1, l12_0_1, l12_0_4, l12_0_5, l12_0_6, l12_0_9, l12_0_10, l12_0_11, l12_0_13, l12_0_14, l12_0_15, l12_0_16, l12_0_17, l12_0_18, l12_0_19, l12_0_23, l12_0_24, l12_0_25, l12_0_27, n_a0, n_a1, n_a2, n_a3, n_a4, n_a5, n_a6, n_a7, n_a8, n_a9, n_a10, n_b0, n_b1, n_b2, n_p0, n_p1, n_p2, n_p3, n_p4, n_s0, n_s1, n_s2, n_s3, n_nm, n20_18, n20_19, n20_20, n20_21, n20_44, n20_45, n20_46, n20_47, n20_48, n20_49, n20_83, n20_84, n20_85, n20_86, n20_87, n20_88, n20_89, n20_90, n20_91, n20_92, n20_93, n20_94, n20_95, n20_96, n20_97, n20_98, n21_2, n21_3, n21_4, n21_5, n21_6, n22_6, n22_7, n22_17, n22_18, n22_19, n22_20, n23_0, n24_0, n25_0, r_a0, w_a0, r_a1, w_a1, r_a2, w_a2, r_a3, w_a3, r_a4, w_a4, r_a5, w_a5, r_a6, w_a6, r_a7, w_a7, r_a8, w_a8, r_a9, w_a9, r_a10, w_a10, r_b0, w_b0, r_b1, w_b1, r_b2, w_b2, r_d, w_d, r_c, w_c, r_e, w_e, r_t, w_t, r_f0, w_f0, r_f1, w_f1, r_f2, w_f2, r_f3, w_f3, r_e0, w_e0, r_e1, w_e1, r_e2, w_e2, r_o7, r_o8, r_o9, r_o10, r_o1, r_o5, r_o6, r_o11, r_o12, r_o21, r_o23, r_p0, r_p1, r_p2, r_s0, r_s1, r_s2, r_s3, i3_add1, i3_add, i3_mul, i3_addl, i3_mull, i3_ladd, i3_lmul, i3_div4, i3_le, i3_lt, i3_eq, i3_lel, i3_lle, i3_ltl, i3_llt, i3_eql, i3_leq, i3_nl, i3_0l, i3_nn, n1_lt, n1_le, xi_i3, xin_i3, xi_lit, xin_lit, xb0, xb1, gd_t, nz4, Option.bind_some, gR_emb, gN_emb, gL_emb, ↓reduceIte, if_true, if_false, not_true_eq_false, not_false_eq_true, eq_self, Nat.not_lt_zero, Nat.zero_le, true_or, or_true, false_or, or_false, true_and, and_true, false_and, and_false, Nat.le_refl]
    rfl
  | n + 1, m + 1, part, at', E, hm, hat, hn, hO => by
    have hO2 : Okd d nb nw (up E 14 10 (E 14 10 + 1)) := Okd_up hO (by omega)
    have hP := putT_ok (nt := decide (d = 2)) hO2
    have hS := fun s => putT_slot (nt := decide (d = 2)) (s := s) hO2.1
    have h36 := mul36 hO.1.1 hO.1.2.1
    conv => lhs; unfold L_X2_commitPages_29
    conv => rhs; unfold comR
    simp (disch := first | assumption | omega) only [l0_7, l0_8, l0_9, l0_10, l0_11, l0_12, l0_13, l0_14, l0_15, l2_0, l2_5, l2_6, l2_7, l2_8, l2_9, l2_12, l2_13, l7_4, l7_5, l7_6, l7_7, l8_0, l8_1, l8_2, l9_1, l9_2, l9_3, l9_4, l4_0_0, l4_0_1, l4_0_2, l4_0_3, l3_0_2, l3_0_3, l3_0_4, l3_0_5, l10_0_0, l1_0_1, l1_0_2, l1_0_3, l1_1_1, l1_1_2, l1_1_3, l1_2_1, l1_2_2, l1_2_3, l5_0_0, l5_0_2, l5_0_3, l5_0_4, l11_0_0, l11_0_5, l11_0_6, l11_0_7, l11_0_8, l11_0_9, l11_0_10, l11_0_11, l11_0_12, l11_0_13, l24_0_0, l24_0_1, l25_0_0, l25_0_1, l12_0_1, l12_0_4, l12_0_5, l12_0_6, l12_0_9, l12_0_10, l12_0_11, l12_0_13, l12_0_14, l12_0_15, l12_0_16, l12_0_17, l12_0_18, l12_0_19, l12_0_23, l12_0_24, l12_0_25, l12_0_27, n_a0, n_a1, n_a2, n_a3, n_a4, n_a5, n_a6, n_a7, n_a8, n_a9, n_a10, n_b0, n_b1, n_b2, n_p0, n_p1, n_p2, n_p3, n_p4, n_s0, n_s1, n_s2, n_s3, n_nm, n20_18, n20_19, n20_20, n20_21, n20_44, n20_45, n20_46, n20_47, n20_48, n20_49, n20_83, n20_84, n20_85, n20_86, n20_87, n20_88, n20_89, n20_90, n20_91, n20_92, n20_93, n20_94, n20_95, n20_96, n20_97, n20_98, n21_2, n21_3, n21_4, n21_5, n21_6, n22_6, n22_7, n22_17, n22_18, n22_19, n22_20, n23_0, n24_0, n25_0, r_a0, w_a0, r_a1, w_a1, r_a2, w_a2, r_a3, w_a3, r_a4, w_a4, r_a5, w_a5, r_a6, w_a6, r_a7, w_a7, r_a8, w_a8, r_a9, w_a9, r_a10, w_a10, r_b0, w_b0, r_b1, w_b1, r_b2, w_b2, r_d, w_d, r_c, w_c, r_e, w_e, r_t, w_t, r_f0, w_f0, r_f1, w_f1, r_f2, w_f2, r_f3, w_f3, r_e0, w_e0, r_e1, w_e1, r_e2, w_e2, r_o7, r_o8, r_o9, r_o10, r_o1, r_o5, r_o6, r_o11, r_o12, r_o21, r_o23, r_p0, r_p1, r_p2, r_s0, r_s1, r_s2, r_s3, i3_add1, i3_add, i3_mul, i3_addl, i3_mull, i3_ladd, i3_lmul, i3_div4, i3_le, i3_lt, i3_eq, i3_lel, i3_lle, i3_ltl, i3_llt, i3_eql, i3_leq, i3_nl, i3_0l, i3_nn, n1_lt, n1_le, xi_i3, xin_i3, xi_lit, xin_lit, xb0, xb1, gd_t, nz4, Option.bind_some, gR_emb, gN_emb, gL_emb, ↓reduceIte, if_true, if_false, not_true_eq_false, not_false_eq_true, eq_self, Nat.not_lt_zero, Nat.zero_le, true_or, or_true, false_or, or_false, true_and, and_true, false_and, and_false, e_put h hd hO2 hf]
    rw [if_neg (by omega)]
    generalize putT (decide (d = 2)) (up E 14 10 (E 14 10 + 1)) nb nw = p at hP hS ⊢
    obtain ⟨o, E1⟩ := p
    cases o with
    | none => simp (disch := first | assumption | omega) only [l0_7, l0_8, l0_9, l0_10, l0_11, l0_12, l0_13, l0_14, l0_15, l2_0, l2_5, l2_6, l2_7, l2_8, l2_9, l2_12, l2_13, l7_4, l7_5, l7_6, l7_7, l8_0, l8_1, l8_2, l9_1, l9_2, l9_3, l9_4, l4_0_0, l4_0_1, l4_0_2, l4_0_3, l3_0_2, l3_0_3, l3_0_4, l3_0_5, l10_0_0, l1_0_1, l1_0_2, l1_0_3, l1_1_1, l1_1_2, l1_1_3, l1_2_1, l1_2_2, l1_2_3, l5_0_0, l5_0_2, l5_0_3, l5_0_4, l11_0_0, l11_0_5, l11_0_6, l11_0_7, l11_0_8, l11_0_9, l11_0_10, l11_0_11, l11_0_12, l11_0_13, l24_0_0, l24_0_1, l25_0_0, l25_0_1, l12_0_1, l12_0_4, l12_0_5, l12_0_6, l12_0_9, l12_0_10, l12_0_11, l12_0_13, l12_0_14, l12_0_15, l12_0_16, l12_0_17, l12_0_18, l12_0_19, l12_0_23, l12_0_24, l12_0_25, l12_0_27, n_a0, n_a1, n_a2, n_a3, n_a4, n_a5, n_a6, n_a7, n_a8, n_a9, n_a10, n_b0, n_b1, n_b2, n_p0, n_p1, n_p2, n_p3, n_p4, n_s0, n_s1, n_s2, n_s3, n_nm, n20_18, n20_19, n20_20, n20_21, n20_44, n20_45, n20_46, n20_47, n20_48, n20_49, n20_83, n20_84, n20_85, n20_86, n20_87, n20_88, n20_89, n20_90, n20_91, n20_92, n20_93, n20_94, n20_95, n20_96, n20_97, n20_98, n21_2, n21_3, n21_4, n21_5, n21_6, n22_6, n22_7, n22_17, n22_18, n22_19, n22_20, n23_0, n24_0, n25_0, r_a0, w_a0, r_a1, w_a1, r_a2, w_a2, r_a3, w_a3, r_a4, w_a4, r_a5, w_a5, r_a6, w_a6, r_a7, w_a7, r_a8, w_a8, r_a9, w_a9, r_a10, w_a10, r_b0, w_b0, r_b1, w_b1, r_b2, w_b2, r_d, w_d, r_c, w_c, r_e, w_e, r_t, w_t, r_f0, w_f0, r_f1, w_f1, r_f2, w_f2, r_f3, w_f3, r_e0, w_e0, r_e1, w_e1, r_e2, w_e2, r_o7, r_o8, r_o9, r_o10, r_o1, r_o5, r_o6, r_o11, r_o12, r_o21, r_o23, r_p0, r_p1, r_p2, r_s0, r_s1, r_s2, r_s3, i3_add1, i3_add, i3_mul, i3_addl, i3_mull, i3_ladd, i3_lmul, i3_div4, i3_le, i3_lt, i3_eq, i3_lel, i3_lle, i3_ltl, i3_llt, i3_eql, i3_leq, i3_nl, i3_0l, i3_nn, n1_lt, n1_le, xi_i3, xin_i3, xi_lit, xin_lit, xb0, xb1, gd_t, nz4, Option.bind_some, gR_emb, gN_emb, gL_emb, ↓reduceIte, if_true, if_false, not_true_eq_false, not_false_eq_true, eq_self, Nat.not_lt_zero, Nat.zero_le, true_or, or_true, false_or, or_false, true_and, and_true, false_and, and_false, on]
    | some s =>
      have h1 := hS s rfl
      have h0 : E1 2 s = 0 := (h1.2.2 2 s (by omega)).trans h1.2.1
      have h2 := fillPartT_ok (part := part) (parts := parts) hat (show s < 36 by omega) h0 hP.1
      unfold F_X2_fillPart
      have e1 : (L_X2_fillPart_7 fu fu d (i3 s) (i3 part) (i3 parts) 0 (i3 at') (emb d E1 M)) = some (i3 (fillPartT E1 s part parts at').1, emb d (fillPartT E1 s part parts at').2 M) := e_filR h hd (by omega) (show s < 36 by omega) fu (20 - at') 0 at' E1 (by omega) (by omega) (by omega)
      simp (disch := first | assumption | omega) only [l0_7, l0_8, l0_9, l0_10, l0_11, l0_12, l0_13, l0_14, l0_15, l2_0, l2_5, l2_6, l2_7, l2_8, l2_9, l2_12, l2_13, l7_4, l7_5, l7_6, l7_7, l8_0, l8_1, l8_2, l9_1, l9_2, l9_3, l9_4, l4_0_0, l4_0_1, l4_0_2, l4_0_3, l3_0_2, l3_0_3, l3_0_4, l3_0_5, l10_0_0, l1_0_1, l1_0_2, l1_0_3, l1_1_1, l1_1_2, l1_1_3, l1_2_1, l1_2_2, l1_2_3, l5_0_0, l5_0_2, l5_0_3, l5_0_4, l11_0_0, l11_0_5, l11_0_6, l11_0_7, l11_0_8, l11_0_9, l11_0_10, l11_0_11, l11_0_12, l11_0_13, l24_0_0, l24_0_1, l25_0_0, l25_0_1, l12_0_1, l12_0_4, l12_0_5, l12_0_6, l12_0_9, l12_0_10, l12_0_11, l12_0_13, l12_0_14, l12_0_15, l12_0_16, l12_0_17, l12_0_18, l12_0_19, l12_0_23, l12_0_24, l12_0_25, l12_0_27, n_a0, n_a1, n_a2, n_a3, n_a4, n_a5, n_a6, n_a7, n_a8, n_a9, n_a10, n_b0, n_b1, n_b2, n_p0, n_p1, n_p2, n_p3, n_p4, n_s0, n_s1, n_s2, n_s3, n_nm, n20_18, n20_19, n20_20, n20_21, n20_44, n20_45, n20_46, n20_47, n20_48, n20_49, n20_83, n20_84, n20_85, n20_86, n20_87, n20_88, n20_89, n20_90, n20_91, n20_92, n20_93, n20_94, n20_95, n20_96, n20_97, n20_98, n21_2, n21_3, n21_4, n21_5, n21_6, n22_6, n22_7, n22_17, n22_18, n22_19, n22_20, n23_0, n24_0, n25_0, r_a0, w_a0, r_a1, w_a1, r_a2, w_a2, r_a3, w_a3, r_a4, w_a4, r_a5, w_a5, r_a6, w_a6, r_a7, w_a7, r_a8, w_a8, r_a9, w_a9, r_a10, w_a10, r_b0, w_b0, r_b1, w_b1, r_b2, w_b2, r_d, w_d, r_c, w_c, r_e, w_e, r_t, w_t, r_f0, w_f0, r_f1, w_f1, r_f2, w_f2, r_f3, w_f3, r_e0, w_e0, r_e1, w_e1, r_e2, w_e2, r_o7, r_o8, r_o9, r_o10, r_o1, r_o5, r_o6, r_o11, r_o12, r_o21, r_o23, r_p0, r_p1, r_p2, r_s0, r_s1, r_s2, r_s3, i3_add1, i3_add, i3_mul, i3_addl, i3_mull, i3_ladd, i3_lmul, i3_div4, i3_le, i3_lt, i3_eq, i3_lel, i3_lle, i3_ltl, i3_llt, i3_eql, i3_leq, i3_nl, i3_0l, i3_nn, n1_lt, n1_le, xi_i3, xin_i3, xi_lit, xin_lit, xb0, xb1, gd_t, nz4, Option.bind_some, gR_emb, gN_emb, gL_emb, ↓reduceIte, if_true, if_false, not_true_eq_false, not_false_eq_true, eq_self, Nat.not_lt_zero, Nat.zero_le, true_or, or_true, false_or, or_false, true_and, and_true, false_and, and_false, on, e1]
      exact e_comR h hd hf hp n m (part + 1) _ _ (by omega) h2.2 (by omega) h2.1
theorem partsN_le (D : xT) : partsN D ≤ 6 := by have := keptN_le D; unfold partsN; omega
theorem commitT_ok {nt : Bool} (hO : Okd d nb nw D) : Okd d nb nw (commitT nt D nb nw).2 := by
  unfold commitT
  (repeat' split)
  · exact hO
  · exact comR_ok _ _ _ _ (by omega) hO
  · exact hO
theorem e_commit (h : Lay M) (hd : d < 5) (hO : Okd d nb nw D) (hf : 300 < fu) : F_X2_commitPages fu d (emb d D M) = some ((commitT (decide (d = 2)) D nb nw).1, emb d (commitT (decide (d = 2)) D nb nw).2 M) := by
  have hp := partsN_le D
  unfold F_X2_commitPages commitT
  simp (disch := first | assumption | omega) only [l0_7, l0_8, l0_9, l0_10, l0_11, l0_12, l0_13, l0_14, l0_15, l2_0, l2_5, l2_6, l2_7, l2_8, l2_9, l2_12, l2_13, l7_4, l7_5, l7_6, l7_7, l8_0, l8_1, l8_2, l9_1, l9_2, l9_3, l9_4, l4_0_0, l4_0_1, l4_0_2, l4_0_3, l3_0_2, l3_0_3, l3_0_4, l3_0_5, l10_0_0, l1_0_1, l1_0_2, l1_0_3, l1_1_1, l1_1_2, l1_1_3, l1_2_1, l1_2_2, l1_2_3, l5_0_0, l5_0_2, l5_0_3, l5_0_4, l11_0_0, l11_0_5, l11_0_6, l11_0_7, l11_0_8, l11_0_9, l11_0_10, l11_0_11, l11_0_12, l11_0_13, l24_0_0, l24_0_1, l25_0_0, l25_0_1, l12_0_1, l12_0_4, l12_0_5, l12_0_6, l12_0_9, l12_0_10, l12_0_11, l12_0_13, l12_0_14, l12_0_15, l12_0_16, l12_0_17, l12_0_18, l12_0_19, l12_0_23, l12_0_24, l12_0_25, l12_0_27, n_a0, n_a1, n_a2, n_a3, n_a4, n_a5, n_a6, n_a7, n_a8, n_a9, n_a10, n_b0, n_b1, n_b2, n_p0, n_p1, n_p2, n_p3, n_p4, n_s0, n_s1, n_s2, n_s3, n_nm, n20_18, n20_19, n20_20, n20_21, n20_44, n20_45, n20_46, n20_47, n20_48, n20_49, n20_83, n20_84, n20_85, n20_86, n20_87, n20_88, n20_89, n20_90, n20_91, n20_92, n20_93, n20_94, n20_95, n20_96, n20_97, n20_98, n21_2, n21_3, n21_4, n21_5, n21_6, n22_6, n22_7, n22_17, n22_18, n22_19, n22_20, n23_0, n24_0, n25_0, r_a0, w_a0, r_a1, w_a1, r_a2, w_a2, r_a3, w_a3, r_a4, w_a4, r_a5, w_a5, r_a6, w_a6, r_a7, w_a7, r_a8, w_a8, r_a9, w_a9, r_a10, w_a10, r_b0, w_b0, r_b1, w_b1, r_b2, w_b2, r_d, w_d, r_c, w_c, r_e, w_e, r_t, w_t, r_f0, w_f0, r_f1, w_f1, r_f2, w_f2, r_f3, w_f3, r_e0, w_e0, r_e1, w_e1, r_e2, w_e2, r_o7, r_o8, r_o9, r_o10, r_o1, r_o5, r_o6, r_o11, r_o12, r_o21, r_o23, r_p0, r_p1, r_p2, r_s0, r_s1, r_s2, r_s3, i3_add1, i3_add, i3_mul, i3_addl, i3_mull, i3_ladd, i3_lmul, i3_div4, i3_le, i3_lt, i3_eq, i3_lel, i3_lle, i3_ltl, i3_llt, i3_eql, i3_leq, i3_nl, i3_0l, i3_nn, n1_lt, n1_le, xi_i3, xin_i3, xi_lit, xin_lit, xb0, xb1, gd_t, nz4, Option.bind_some, gR_emb, gN_emb, gL_emb, ↓reduceIte, if_true, if_false, not_true_eq_false, not_false_eq_true, eq_self, Nat.not_lt_zero, Nat.zero_le, true_or, or_true, false_or, or_false, true_and, and_true, false_and, and_false, e_parts h hd (show 100 < fu by omega)]
  rw [show keptN D / 4 + 1 = partsN D from rfl]
  by_cases c : D 14 1 = 0
  · simp (disch := first | assumption | omega) only [l0_7, l0_8, l0_9, l0_10, l0_11, l0_12, l0_13, l0_14, l0_15, l2_0, l2_5, l2_6, l2_7, l2_8, l2_9, l2_12, l2_13, l7_4, l7_5, l7_6, l7_7, l8_0, l8_1, l8_2, l9_1, l9_2, l9_3, l9_4, l4_0_0, l4_0_1, l4_0_2, l4_0_3, l3_0_2, l3_0_3, l3_0_4, l3_0_5, l10_0_0, l1_0_1, l1_0_2, l1_0_3, l1_1_1, l1_1_2, l1_1_3, l1_2_1, l1_2_2, l1_2_3, l5_0_0, l5_0_2, l5_0_3, l5_0_4, l11_0_0, l11_0_5, l11_0_6, l11_0_7, l11_0_8, l11_0_9, l11_0_10, l11_0_11, l11_0_12, l11_0_13, l24_0_0, l24_0_1, l25_0_0, l25_0_1, l12_0_1, l12_0_4, l12_0_5, l12_0_6, l12_0_9, l12_0_10, l12_0_11, l12_0_13, l12_0_14, l12_0_15, l12_0_16, l12_0_17, l12_0_18, l12_0_19, l12_0_23, l12_0_24, l12_0_25, l12_0_27, n_a0, n_a1, n_a2, n_a3, n_a4, n_a5, n_a6, n_a7, n_a8, n_a9, n_a10, n_b0, n_b1, n_b2, n_p0, n_p1, n_p2, n_p3, n_p4, n_s0, n_s1, n_s2, n_s3, n_nm, n20_18, n20_19, n20_20, n20_21, n20_44, n20_45, n20_46, n20_47, n20_48, n20_49, n20_83, n20_84, n20_85, n20_86, n20_87, n20_88, n20_89, n20_90, n20_91, n20_92, n20_93, n20_94, n20_95, n20_96, n20_97, n20_98, n21_2, n21_3, n21_4, n21_5, n21_6, n22_6, n22_7, n22_17, n22_18, n22_19, n22_20, n23_0, n24_0, n25_0, r_a0, w_a0, r_a1, w_a1, r_a2, w_a2, r_a3, w_a3, r_a4, w_a4, r_a5, w_a5, r_a6, w_a6, r_a7, w_a7, r_a8, w_a8, r_a9, w_a9, r_a10, w_a10, r_b0, w_b0, r_b1, w_b1, r_b2, w_b2, r_d, w_d, r_c, w_c, r_e, w_e, r_t, w_t, r_f0, w_f0, r_f1, w_f1, r_f2, w_f2, r_f3, w_f3, r_e0, w_e0, r_e1, w_e1, r_e2, w_e2, r_o7, r_o8, r_o9, r_o10, r_o1, r_o5, r_o6, r_o11, r_o12, r_o21, r_o23, r_p0, r_p1, r_p2, r_s0, r_s1, r_s2, r_s3, i3_add1, i3_add, i3_mul, i3_addl, i3_mull, i3_ladd, i3_lmul, i3_div4, i3_le, i3_lt, i3_eq, i3_lel, i3_lle, i3_ltl, i3_llt, i3_eql, i3_leq, i3_nl, i3_0l, i3_nn, n1_lt, n1_le, xi_i3, xin_i3, xi_lit, xin_lit, xb0, xb1, gd_t, nz4, Option.bind_some, gR_emb, gN_emb, gL_emb, ↓reduceIte, if_true, if_false, not_true_eq_false, not_false_eq_true, eq_self, Nat.not_lt_zero, Nat.zero_le, true_or, or_true, false_or, or_false, true_and, and_true, false_and, and_false, c]
  · simp (disch := first | assumption | omega) only [l0_7, l0_8, l0_9, l0_10, l0_11, l0_12, l0_13, l0_14, l0_15, l2_0, l2_5, l2_6, l2_7, l2_8, l2_9, l2_12, l2_13, l7_4, l7_5, l7_6, l7_7, l8_0, l8_1, l8_2, l9_1, l9_2, l9_3, l9_4, l4_0_0, l4_0_1, l4_0_2, l4_0_3, l3_0_2, l3_0_3, l3_0_4, l3_0_5, l10_0_0, l1_0_1, l1_0_2, l1_0_3, l1_1_1, l1_1_2, l1_1_3, l1_2_1, l1_2_2, l1_2_3, l5_0_0, l5_0_2, l5_0_3, l5_0_4, l11_0_0, l11_0_5, l11_0_6, l11_0_7, l11_0_8, l11_0_9, l11_0_10, l11_0_11, l11_0_12, l11_0_13, l24_0_0, l24_0_1, l25_0_0, l25_0_1, l12_0_1, l12_0_4, l12_0_5, l12_0_6, l12_0_9, l12_0_10, l12_0_11, l12_0_13, l12_0_14, l12_0_15, l12_0_16, l12_0_17, l12_0_18, l12_0_19, l12_0_23, l12_0_24, l12_0_25, l12_0_27, n_a0, n_a1, n_a2, n_a3, n_a4, n_a5, n_a6, n_a7, n_a8, n_a9, n_a10, n_b0, n_b1, n_b2, n_p0, n_p1, n_p2, n_p3, n_p4, n_s0, n_s1, n_s2, n_s3, n_nm, n20_18, n20_19, n20_20, n20_21, n20_44, n20_45, n20_46, n20_47, n20_48, n20_49, n20_83, n20_84, n20_85, n20_86, n20_87, n20_88, n20_89, n20_90, n20_91, n20_92, n20_93, n20_94, n20_95, n20_96, n20_97, n20_98, n21_2, n21_3, n21_4, n21_5, n21_6, n22_6, n22_7, n22_17, n22_18, n22_19, n22_20, n23_0, n24_0, n25_0, r_a0, w_a0, r_a1, w_a1, r_a2, w_a2, r_a3, w_a3, r_a4, w_a4, r_a5, w_a5, r_a6, w_a6, r_a7, w_a7, r_a8, w_a8, r_a9, w_a9, r_a10, w_a10, r_b0, w_b0, r_b1, w_b1, r_b2, w_b2, r_d, w_d, r_c, w_c, r_e, w_e, r_t, w_t, r_f0, w_f0, r_f1, w_f1, r_f2, w_f2, r_f3, w_f3, r_e0, w_e0, r_e1, w_e1, r_e2, w_e2, r_o7, r_o8, r_o9, r_o10, r_o1, r_o5, r_o6, r_o11, r_o12, r_o21, r_o23, r_p0, r_p1, r_p2, r_s0, r_s1, r_s2, r_s3, i3_add1, i3_add, i3_mul, i3_addl, i3_mull, i3_ladd, i3_lmul, i3_div4, i3_le, i3_lt, i3_eq, i3_lel, i3_lle, i3_ltl, i3_llt, i3_eql, i3_leq, i3_nl, i3_0l, i3_nn, n1_lt, n1_le, xi_i3, xin_i3, xi_lit, xin_lit, xb0, xb1, gd_t, nz4, Option.bind_some, gR_emb, gN_emb, gL_emb, ↓reduceIte, if_true, if_false, not_true_eq_false, not_false_eq_true, eq_self, Nat.not_lt_zero, Nat.zero_le, true_or, or_true, false_or, or_false, true_and, and_true, false_and, and_false, c]
    by_cases c2 : i3 (partsN D) ≤ D 15 3
    · simp (disch := first | assumption | omega) only [l0_7, l0_8, l0_9, l0_10, l0_11, l0_12, l0_13, l0_14, l0_15, l2_0, l2_5, l2_6, l2_7, l2_8, l2_9, l2_12, l2_13, l7_4, l7_5, l7_6, l7_7, l8_0, l8_1, l8_2, l9_1, l9_2, l9_3, l9_4, l4_0_0, l4_0_1, l4_0_2, l4_0_3, l3_0_2, l3_0_3, l3_0_4, l3_0_5, l10_0_0, l1_0_1, l1_0_2, l1_0_3, l1_1_1, l1_1_2, l1_1_3, l1_2_1, l1_2_2, l1_2_3, l5_0_0, l5_0_2, l5_0_3, l5_0_4, l11_0_0, l11_0_5, l11_0_6, l11_0_7, l11_0_8, l11_0_9, l11_0_10, l11_0_11, l11_0_12, l11_0_13, l24_0_0, l24_0_1, l25_0_0, l25_0_1, l12_0_1, l12_0_4, l12_0_5, l12_0_6, l12_0_9, l12_0_10, l12_0_11, l12_0_13, l12_0_14, l12_0_15, l12_0_16, l12_0_17, l12_0_18, l12_0_19, l12_0_23, l12_0_24, l12_0_25, l12_0_27, n_a0, n_a1, n_a2, n_a3, n_a4, n_a5, n_a6, n_a7, n_a8, n_a9, n_a10, n_b0, n_b1, n_b2, n_p0, n_p1, n_p2, n_p3, n_p4, n_s0, n_s1, n_s2, n_s3, n_nm, n20_18, n20_19, n20_20, n20_21, n20_44, n20_45, n20_46, n20_47, n20_48, n20_49, n20_83, n20_84, n20_85, n20_86, n20_87, n20_88, n20_89, n20_90, n20_91, n20_92, n20_93, n20_94, n20_95, n20_96, n20_97, n20_98, n21_2, n21_3, n21_4, n21_5, n21_6, n22_6, n22_7, n22_17, n22_18, n22_19, n22_20, n23_0, n24_0, n25_0, r_a0, w_a0, r_a1, w_a1, r_a2, w_a2, r_a3, w_a3, r_a4, w_a4, r_a5, w_a5, r_a6, w_a6, r_a7, w_a7, r_a8, w_a8, r_a9, w_a9, r_a10, w_a10, r_b0, w_b0, r_b1, w_b1, r_b2, w_b2, r_d, w_d, r_c, w_c, r_e, w_e, r_t, w_t, r_f0, w_f0, r_f1, w_f1, r_f2, w_f2, r_f3, w_f3, r_e0, w_e0, r_e1, w_e1, r_e2, w_e2, r_o7, r_o8, r_o9, r_o10, r_o1, r_o5, r_o6, r_o11, r_o12, r_o21, r_o23, r_p0, r_p1, r_p2, r_s0, r_s1, r_s2, r_s3, i3_add1, i3_add, i3_mul, i3_addl, i3_mull, i3_ladd, i3_lmul, i3_div4, i3_le, i3_lt, i3_eq, i3_lel, i3_lle, i3_ltl, i3_llt, i3_eql, i3_leq, i3_nl, i3_0l, i3_nn, n1_lt, n1_le, xi_i3, xin_i3, xi_lit, xin_lit, xb0, xb1, gd_t, nz4, Option.bind_some, gR_emb, gN_emb, gL_emb, ↓reduceIte, if_true, if_false, not_true_eq_false, not_false_eq_true, eq_self, Nat.not_lt_zero, Nat.zero_le, true_or, or_true, false_or, or_false, true_and, and_true, false_and, and_false, c2]
      exact e_comR h hd hf hp fu (partsN D) 0 0 D (by omega) (by omega) (by omega) hO
    · simp (disch := first | assumption | omega) only [l0_7, l0_8, l0_9, l0_10, l0_11, l0_12, l0_13, l0_14, l0_15, l2_0, l2_5, l2_6, l2_7, l2_8, l2_9, l2_12, l2_13, l7_4, l7_5, l7_6, l7_7, l8_0, l8_1, l8_2, l9_1, l9_2, l9_3, l9_4, l4_0_0, l4_0_1, l4_0_2, l4_0_3, l3_0_2, l3_0_3, l3_0_4, l3_0_5, l10_0_0, l1_0_1, l1_0_2, l1_0_3, l1_1_1, l1_1_2, l1_1_3, l1_2_1, l1_2_2, l1_2_3, l5_0_0, l5_0_2, l5_0_3, l5_0_4, l11_0_0, l11_0_5, l11_0_6, l11_0_7, l11_0_8, l11_0_9, l11_0_10, l11_0_11, l11_0_12, l11_0_13, l24_0_0, l24_0_1, l25_0_0, l25_0_1, l12_0_1, l12_0_4, l12_0_5, l12_0_6, l12_0_9, l12_0_10, l12_0_11, l12_0_13, l12_0_14, l12_0_15, l12_0_16, l12_0_17, l12_0_18, l12_0_19, l12_0_23, l12_0_24, l12_0_25, l12_0_27, n_a0, n_a1, n_a2, n_a3, n_a4, n_a5, n_a6, n_a7, n_a8, n_a9, n_a10, n_b0, n_b1, n_b2, n_p0, n_p1, n_p2, n_p3, n_p4, n_s0, n_s1, n_s2, n_s3, n_nm, n20_18, n20_19, n20_20, n20_21, n20_44, n20_45, n20_46, n20_47, n20_48, n20_49, n20_83, n20_84, n20_85, n20_86, n20_87, n20_88, n20_89, n20_90, n20_91, n20_92, n20_93, n20_94, n20_95, n20_96, n20_97, n20_98, n21_2, n21_3, n21_4, n21_5, n21_6, n22_6, n22_7, n22_17, n22_18, n22_19, n22_20, n23_0, n24_0, n25_0, r_a0, w_a0, r_a1, w_a1, r_a2, w_a2, r_a3, w_a3, r_a4, w_a4, r_a5, w_a5, r_a6, w_a6, r_a7, w_a7, r_a8, w_a8, r_a9, w_a9, r_a10, w_a10, r_b0, w_b0, r_b1, w_b1, r_b2, w_b2, r_d, w_d, r_c, w_c, r_e, w_e, r_t, w_t, r_f0, w_f0, r_f1, w_f1, r_f2, w_f2, r_f3, w_f3, r_e0, w_e0, r_e1, w_e1, r_e2, w_e2, r_o7, r_o8, r_o9, r_o10, r_o1, r_o5, r_o6, r_o11, r_o12, r_o21, r_o23, r_p0, r_p1, r_p2, r_s0, r_s1, r_s2, r_s3, i3_add1, i3_add, i3_mul, i3_addl, i3_mull, i3_ladd, i3_lmul, i3_div4, i3_le, i3_lt, i3_eq, i3_lel, i3_lle, i3_ltl, i3_llt, i3_eql, i3_leq, i3_nl, i3_0l, i3_nn, n1_lt, n1_le, xi_i3, xin_i3, xi_lit, xin_lit, xb0, xb1, gd_t, nz4, Option.bind_some, gR_emb, gN_emb, gL_emb, ↓reduceIte, if_true, if_false, not_true_eq_false, not_false_eq_true, eq_self, Nat.not_lt_zero, Nat.zero_le, true_or, or_true, false_or, or_false, true_and, and_true, false_and, and_false, c2]
end
