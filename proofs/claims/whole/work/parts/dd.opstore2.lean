/-! ===== a PLAN told: the class starts anew ===== -/
section
variable {M M' M1 N N' N1 : xM} {X Y Y' Y1 Y2 : xT} {f : Nat → Nat} {fu l t T n i j k d s x a b w F e m g lo hi p B : Nat} {c ls : List Nat} {q : Nat × Nat} {u v y0 : Int32} {nm : Nat → List Nat} {S S' : plS} {y : Int64} {C : xC} {R : Nat → Int32} {D : xT} {W : Nat → Nat} {V : Nat → Nat → Int32}
/-- the world behind startAnew, and the tape taken; a is the plan's cell now -/
def anW (C : xC) (a w : Nat) (M : xM) : xM := sI (sI (sI (sI (sI (sI (emb 0 (startT C (tb 0 M)) (sR M 2 0 4 (some a))) 9 w 0 0) 1 0 0 0) 22 19 0 0) 22 19 1 0) 5 0 5 0) 10 0 1 0
theorem anW_I {c s k : Nat} : gI (anW C a w M) c s k = if c = 10 ∧ s = 0 ∧ k = 1 then 0 else if c = 5 ∧ s = 0 ∧ k = 5 then 0 else if c = 22 ∧ s = 19 ∧ k = 1 then 0 else if c = 22 ∧ s = 19 ∧ k = 0 then 0 else if c = 1 ∧ s = 0 ∧ k = 0 then 0 else if c = 9 ∧ s = w ∧ k = 0 then 0 else gI (emb 0 (startT C (tb 0 M)) (sR M 2 0 4 (some a))) c s k := rfl
theorem anW_o {c s k : Nat} (hb : bs c s) (h : c ≠ 10 ∧ c ≠ 5 ∧ c ≠ 1 ∧ c ≠ 9 ∧ (c ≠ 22 ∨ s ≠ 19)) : gI (anW C a w M) c s k = gI M c s k := by
  rw [anW_I, if_neg (by omega), if_neg (by omega), if_neg (by omega), if_neg (by omega), if_neg (by omega), if_neg (by omega)]
  exact gI_not (hb.1 0)
theorem anW_tb (hj : j < 29) : tb 0 (anW C a w M) j k = startT C (tb 0 M) j k := by
  have h : ∀ c s k, ¬ bs c s → gI (anW C a w M) c s k = gI (emb 0 (startT C (tb 0 M)) (sR M 2 0 4 (some a))) c s k := fun c s k hb => by
    have q : ∀ c', (c' = 10 ∨ c' = 5 ∨ c' = 1 ∨ c' = 9) → c ≠ c' := fun c' hc z => hb (by rw [z]; exact bs_c (by omega))
    have q10 := q 10 (by omega)
    have q5 := q 5 (by omega)
    have q1 := q 1 (by omega)
    have q9 := q 9 (by omega)
    have q22 : ¬ (c = 22 ∧ s = 19) := fun z => hb (by rw [z.1, z.2]; exact bs_22 (by omega))
    rw [anW_I, if_neg (by omega), if_neg (by omega), if_neg (by omega), if_neg (by omega), if_neg (by omega), if_neg (by omega)]
  rw [tb_off h (by omega), tb_own (by omega) hj]
theorem anW_R {c s k : Nat} : gR (anW C a w M) c s k = if c = 2 ∧ s = 0 ∧ k = 4 then some a else gR M c s k := rfl
theorem anW_L {c s k : Nat} : gL (anW C a w M) c s k = gL M c s k := rfl
theorem anW_lay (h : Lay M) : Lay (anW C a w M) := Lay_sR4 h
theorem e_anew (h : Lay M) (h1 : gR M 11 0 1 = some a) (h3 : gR M 11 0 3 = some w) (hC : Cfg C R a M) (hf : 1100 < fu) (hu : u ≠ 0) :
    ((F_X11_startAnew fu 0 M).bind fun p_7 => (gR p_7 11 0 0).bind fun a_8 => (F_X10_taken fu a_8 u p_7).bind fun p_9 => some (p_9.1, p_9.2)) = some (0, anW C a w M) := by
  have es := e_start (fu := fu) (d := 0) (D := tb 0 M) h (by omega) hC (by omega)
  rw [emb_tb] at es
  have hL1 : Lay (emb 0 (startT C (tb 0 M)) (sR M 2 0 4 (some a))) := Lay_sR4 h
  have g3 : gR (emb 0 (startT C (tb 0 M)) (sR M 2 0 4 (some a))) 11 0 3 = some w := h3
  unfold F_X11_startAnew
  rw [l11_0_6 h]
  simp only [Option.bind_some]
  rw [h1, es]
  simp only [Option.bind_some]
  rw [g3]
  simp only [Option.bind_some]
  unfold F_X9_clear
  simp only [Option.bind_some]
  rw [l11_0_8 (M := sI (emb 0 (startT C (tb 0 M)) (sR M 2 0 4 (some a))) 9 w 0 0) hL1]
  simp only [Option.bind_some]
  unfold F_X1_clear
  simp only [Option.bind_some]
  rw [l11_0_13 (M := sI (sI (emb 0 (startT C (tb 0 M)) (sR M 2 0 4 (some a))) 9 w 0 0) 1 0 0 0) hL1]
  simp only [Option.bind_some]
  rw [show xin 0 (gN (sI (sI (emb 0 (startT C (tb 0 M)) (sR M 2 0 4 (some a))) 9 w 0 0) 1 0 0 0) 22 19) = true by rw [n22_19 (M := sI (sI (emb 0 (startT C (tb 0 M)) (sR M 2 0 4 (some a))) 9 w 0 0) 1 0 0 0) hL1]; decide, gd_t, xb_f, gd_t, show xi 0 = 0 from rfl, l11_0_13 (M := sI (sI (sI (emb 0 (startT C (tb 0 M)) (sR M 2 0 4 (some a))) 9 w 0 0) 1 0 0 0) 22 19 0 0) hL1]
  simp only [Option.bind_some]
  rw [show xin 1 (gN (sI (sI (sI (emb 0 (startT C (tb 0 M)) (sR M 2 0 4 (some a))) 9 w 0 0) 1 0 0 0) 22 19 0 0) 22 19) = true by rw [n22_19 (M := sI (sI (sI (emb 0 (startT C (tb 0 M)) (sR M 2 0 4 (some a))) 9 w 0 0) 1 0 0 0) 22 19 0 0) hL1]; decide, gd_t, gd_t, show xi 1 = 1 from rfl, l11_0_9 (M := sI (sI (sI (sI (emb 0 (startT C (tb 0 M)) (sR M 2 0 4 (some a))) 9 w 0 0) 1 0 0 0) 22 19 0 0) 22 19 1 0) hL1]
  simp only [Option.bind_some]
  unfold F_X5_forget
  rw [xb_f, gd_t]
  simp only [Option.bind_some]
  rw [l11_0_0 (M := sI (sI (sI (sI (sI (emb 0 (startT C (tb 0 M)) (sR M 2 0 4 (some a))) 9 w 0 0) 1 0 0 0) 22 19 0 0) 22 19 1 0) 5 0 5 0) hL1]
  simp only [Option.bind_some]
  rw [taken_e, if_neg hu]
  rfl
/-- the configuration told -/
theorem Cfg_pl (hP : PlC a S M) (hO : PlOk S) : Cfg S.1 (clR S.2.2.2) a M := by
  obtain ⟨o1, o2, o3, o4, o5, o6, o7, o8, o9, o10, o11⟩ := hO
  obtain ⟨p1, p2, p3, p4, p5⟩ := hP
  refine ⟨o1, o2, o3, o4, by rw [o5]; exact o6, p1 0 (by omega), p1 1 (by omega), p1 2 (by omega), p1 3 (by omega), by rw [o5]; exact p4, fun f hf => ?_, fun i hi => p5 i (by rw [← o5]; exact hi)⟩
  obtain ⟨z1, z2, z3, z4, z5⟩ := o8 f hf
  exact ⟨z1, z2, z3, (p3 f hf).1, (p3 f hf).2.1⟩
theorem Cfg_sR1 {c s k : Nat} {o : Option Nat} (hC : Cfg C R a M) : Cfg C R a (sR M c s k o) := hC
end
