/-! ===== the law's calls: lives; the relation for any plan ===== -/
/-- the relation, of some plan -/
def SimS (B : Nat) (M : xM) : Prop := ∃ C R a w n W V, SimP C R a w n W V B M
/-- both answer alike, and the relation holds behind it -/
def Bo (B : Nat) (f g : xM → Option (Int32 × xM)) (M : xM) : Prop := ∃ r M1 M2, f M = some (r, M1) ∧ g M1 = some (r, M2) ∧ SimS B M2
section
variable {M M' N : xM} {D E X X' : xT} {C : xC} {R : Nat → Int32} {a w n B B' fu k j : Nat} {x y z v r : Int32} {x1 x2 x3 y64 : Int64} {W : Nat → Nat} {V : Nat → Nat → Int32} {f g : xM → Option (Int32 × xM)}
theorem SimP_up (hS : SimP C R a w n W V B M) (h : B ≤ B') : SimP C R a w n W V B' M := by
  obtain ⟨s1, s2, s3, s4, s5, s6, s7, s8, s9, s10, s11, s12, s13, s14, s15⟩ := hS
  exact ⟨s1, s2, s3, s4, s5, s6, PDisk_cg s2 h (fun _ _ _ => rfl) (fun _ _ _ => rfl) rfl s7, s8, s9, s10, s11, PMark_cg s2 h (fun _ _ _ _ _ _ => rfl) (fun _ _ _ _ _ _ => rfl) (fun _ _ _ => rfl) (fun _ => rfl) (fun _ _ _ => rfl) s12, s13, s14, s15⟩
theorem Bo_of (h : Both C R a w n W V B f g M) (hB : B ≤ B') : Bo B' f g M := by
  obtain ⟨r, M1, M2, h1, h2, h3⟩ := h
  exact ⟨r, M1, M2, h1, h2, C, R, a, w, n, W, V, SimP_up h3 hB⟩
theorem Sim_s7 (hS : SimP C R a w n W V B M) : SimP C R a w n W V B (sL M 21 7 k y64) := by
  obtain ⟨L, l1, l2, l3, l4, l5, l6⟩ := hS.2.2.2.2.2.2.1
  have hl : ∀ s j, s < 7 → gL (sL M 21 7 k y64) 21 s j = gL M 21 s j := fun s j hs => by
    show (if 21 = 21 ∧ s = 7 ∧ j = k then y64 else gL M 21 s j) = gL M 21 s j
    exact if_neg (by omega)
  refine Sim_cl hS ⟨hS.1.1, fun c s k _ _ _ => rfl, fun j k _ _ _ _ => rfl, l3, fun d j k _ _ _ => rfl, fun c s k _ => rfl, fun s k hs => hl s k (by omega)⟩ ⟨fun j k _ _ => rfl, fun k _ => rfl⟩ hS.2.2.2.2.2.2.2.1 ?_
  exact PJudge_cg (M := M) (M' := sL M 21 7 k y64) (fun c s k _ => rfl) (fun j k _ => rfl) rfl rfl rfl (fun k => rfl) (fun s k hs => hl s k (by omega)) hS.2.2.2.2.2.2.2.2.2.2.2.2.1
/-- lives, both sides, as the law asks -/
theorem op_livesL (hS : SimP C R a w n W V B M) (hf : 1100 < fu) : ∃ k b M1 M2, F_L_lives fu (some 0) x (some 7) M = some (k, M1) ∧ F_X12_lives fu 0 x M1 = some (b, M2) ∧ F_X12_thrown fu 0 M2 = some (k, M2) ∧ SimP C R a w n W V B M2 ∧ (k = 0 ∨ k = 1) ∧ gN M2 21 7 = 1 ∧ (k = 0 → gL M2 21 7 0 = Int32.toInt64 b) := by
  obtain ⟨s1, s2, s3, s4, s5, s6, ⟨L, l1, l2, l3, l4, l5, l6⟩, s8, s9, s10, s11, s12, s13, s14, s15⟩ := id hS
  have h := s1.1
  have h36 := tot36 s2
  have hdet : ∀ N : xM, (∃ y, N = sL M 21 7 0 y) ∨ N = M → F_X2_slotOfLive fu 0 x N = some (on (slX C (tb 0 M) x), emb 0 (surveyT (tb 0 M) (C 0 0) (C 0 1)) N) := fun N hN => by
    have hLN : Lay N := by
      rcases hN with ⟨y, rfl⟩ | rfl
      · exact h
      · exact h
    have htb : tb 0 N = tb 0 M := by
      rcases hN with ⟨y, rfl⟩ | rfl
      · rfl
      · rfl
    have es := e_slotOfLive (fu := fu) (M := N) (D := tb 0 M) (x := x) hLN s2 l2 l3 hf
    rw [← htb, emb_tb, htb] at es
    exact es
  have hthr : ∀ N : xM, F_X12_thrown fu 0 N = some (gI N 12 0 0, N) := fun N => rfl
  have hrun : ∀ N : xM, ((∃ y, N = sL M 21 7 0 y) ∨ N = M) → SimP C R a w n W V B N → ∃ M2, F_X12_lives fu 0 x (emb 0 (surveyT (tb 0 M) (C 0 0) (C 0 1)) N) = some ((match slX C (tb 0 M) x with | some s => i3 s | none => 0), M2) ∧ gI M2 12 0 0 = (match slX C (tb 0 M) x with | some _ => 0 | none => 1) ∧ SimP C R a w n W V B M2 ∧ (∀ k, gL M2 21 7 k = gL N 21 7 k) ∧ gN M2 21 7 = 1 := fun N hN hSN => by
    have hLN : Lay N := hSN.1.1
    have htN : tX N = tX M := by
      rcases hN with ⟨y, rfl⟩ | rfl
      · rfl
      · rfl
    have hLE : Lay (emb 0 (surveyT (tb 0 M) (C 0 0) (C 0 1)) N) := hLN
    have hXE : tX (emb 0 (surveyT (tb 0 M) (C 0 0) (C 0 1)) N) = tX M := (tX_emb (by omega)).trans htN
    have kl := t_lives (fu := fu) (M := emb 0 (surveyT (tb 0 M) (C 0 0) (C 0 1)) N) (x := x) hLE s4 s2 l4 l2 s8 hf
    rw [← hXE, mmb_tX, hXE] at kl
    obtain ⟨r, M1, M2, g1, g2, g3⟩ := op_lives (x := x) hSN hf
    rw [hdet N hN] at g1
    injection g1 with g1
    injection g1 with g1 g1'
    subst g1'
    cases e : slX C (tb 0 M) x with
    | some s =>
      rw [e] at kl
      have kl' : F_X12_lives fu 0 x (emb 0 (surveyT (tb 0 M) (C 0 0) (C 0 1)) N) = some (i3 s, mmb (up (lkX (tX M) 0 (i3 (fsN (tb 0 M)), i3 (wpN (tb 0 M)))) 0 0 0) (emb 0 (surveyT (tb 0 M) (C 0 0) (C 0 1)) N)) := kl
      simp only [kl', Option.bind_some] at g2
      injection g2 with g2
      injection g2 with g2 g2'
      subst g2'
      exact ⟨_, kl', by rw [m_0]; exact up_eq, g3, fun k => rfl, n21_7 hLN⟩
    | none =>
      rw [e] at kl
      have kl' : F_X12_lives fu 0 x (emb 0 (surveyT (tb 0 M) (C 0 0) (C 0 1)) N) = some (0, mmb (up (lkX (tX M) 0 (i3 (fsN (tb 0 M)), i3 (wpN (tb 0 M)))) 0 0 1) (emb 0 (surveyT (tb 0 M) (C 0 0) (C 0 1)) N)) := kl
      simp only [kl', Option.bind_some] at g2
      injection g2 with g2
      injection g2 with g2 g2'
      subst g2'
      exact ⟨_, kl', by rw [m_0]; exact up_eq, g3, fun k => rfl, n21_7 hLN⟩
  have hhead : F_L_lives fu (some 0) x (some 7) M = if on (slX C (tb 0 M) x) < 0 then some (1, emb 0 (surveyT (tb 0 M) (C 0 0) (C 0 1)) M) else some (0, emb 0 (surveyT (tb 0 M) (C 0 0) (C 0 1)) (sL M 21 7 0 (Int32.toInt64 (on (slX C (tb 0 M) x))))) := by
    unfold F_L_lives
    simp only [Option.bind_some]
    rw [l11_0_6 h]
    simp only [Option.bind_some]
    rw [hdet M (Or.inr rfl)]
    simp only [Option.bind_some]
    have hx : xin 0 (gN (emb 0 (surveyT (tb 0 M) (C 0 0) (C 0 1)) M) 21 7) = true := by
      rw [n21_7 (M := emb 0 (surveyT (tb 0 M) (C 0 0) (C 0 1)) M) h]; decide
    rw [hx, gd_t]
    rfl
  cases e : slX C (tb 0 M) x with
  | some s =>
    have hs := (lst_some.mp e).1
    obtain ⟨M2, u1, u2, u3, u4, u5⟩ := hrun (sL M 21 7 0 (Int32.toInt64 (i3 s))) (Or.inl ⟨_, rfl⟩) (Sim_s7 hS)
    rw [e] at u1 u2
    refine ⟨0, i3 s, _, M2, ?_, u1, by rw [hthr, u2], u3, Or.inl rfl, u5, fun _ => ?_⟩
    · rw [hhead, e, if_neg (show ¬ on (some s) < 0 from fun z => (i3_nl (a := s) (by omega)).mp z)]
      rfl
    · rw [u4, gL_sLo, if_pos ⟨rfl, rfl, rfl⟩]
  | none =>
    obtain ⟨M2, u1, u2, u3, u4, u5⟩ := hrun M (Or.inr rfl) hS
    rw [e] at u1 u2
    refine ⟨1, 0, _, M2, ?_, u1, by rw [hthr, u2], u3, Or.inr rfl, u5, fun z => absurd z (by decide)⟩
    rw [hhead, e, if_pos (show on none < 0 from by decide)]
end
