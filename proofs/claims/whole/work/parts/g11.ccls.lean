/-! ===== contracts, by program ===== -/
section XCON
variable {p : Program} {l : Launch} {e : Env} {R : Room} {S0 : State} {m : MethodId} {ag : Array Value} {below : List Frame} {meth : Method} {c0 : Code} {D : va_G} {cA : Nat → ClassId} {A0 : Nat → Prop} {sA : Nat → Nat} {M0 : xM} {ad0 : Nat → Nat → Nat} {Z : State → Prop}
theorem cd_J6_bitCount_0f7a4 : Cond.code yJ6_bitCount_0f7a4 cJ6_bitCount_0f7a4 1 (some .int) ∈ xG := (xg 1116 (by decide +kernel) (by decide +kernel))
theorem pr_J6_bitCount_0f7a4 : (∀ e ∈ pJ6_bitCount_0f7a4, xrow cJ6_bitCount_0f7a4 1 kdJ6 flJ6 0 false RJ6 e) ∧ xnext pJ6_bitCount_0f7a4 = true := xrows (by decide +kernel)
set_option maxRecDepth 100000 in
theorem wx_J6_bitCount_0f7a4 (X : xCtx p R S0 m ag c0 D cA A0 sA 1 cJ6_bitCount_0f7a4 RJ6 (.code yJ6_bitCount_0f7a4 cJ6_bitCount_0f7a4 1 (some .int) :: xG) 0 0) (hi : meth.name = yJ6_bitCount_0f7a4.name) (hroom : 0 + 2 ≤ R.frames ∧ 60 * (0 + 2) ≤ R.locals) {rr : Int32 × xM} (hE : xEnd l D cA sA cJ6_bitCount_0f7a4 1 (some .int) R 0 0 (some (.inl rr.1)) rr.2 p e S0 m ag below meth c0 A0 M0 ad0 Z) (fu : Nat) (x0 : Int32) (M : xM) (h : F_J6_bitCount_0f7a4 fu x0 M = some rr) : xWx p l e R S0 m ag below meth c0 D cA A0 sA M0 ad0 1 Z 0 0 0 0 0 [(0, .inl x0)] [] M := by
  rw [← q_J6_bitCount_0f7a4 fu x0 M] at h
  have hT : ∀ w ∈ xG, w ∈ (Cond.code yJ6_bitCount_0f7a4 cJ6_bitCount_0f7a4 1 (some .int) :: xG) := fun w hw => List.mem_cons_of_mem _ hw
  refine xrun_sound (nst := 0) (isInit := false) (kd := kdJ6) X (xcls_mono hT xclsG) (xpool_mono hT plJ6) (fun z => by cases z) (fun idx v hf => xkoE_mono hT (koJ6_ok _ (xfind_mem hf))) (xents (ca := _) ?_) (endI hE).1 (endI hE).2 (xcuts (cu := _) ?_) pr_J6_bitCount_0f7a4.1 pr_J6_bitCount_0f7a4.2 _ _ _ _ _ _ _ _ (xat_ok pr_J6_bitCount_0f7a4.1 pr_J6_bitCount_0f7a4.2).1 (xat_ok pr_J6_bitCount_0f7a4.1 pr_J6_bitCount_0f7a4.2).2.1 (xat_ok pr_J6_bitCount_0f7a4.1 pr_J6_bitCount_0f7a4.2).2.2 h
  · exact (fun _ h => nomatch h)
  · exact (fun _ h => nomatch h)

theorem ok_J6_bitCount_0f7a4 (l : Launch) (D : va_G) (cA : Nat → ClassId) (sA : Nat → Nat) (fu : Nat) (x0 : Int32) (M : xM) {rr : Int32 × xM} (h : F_J6_bitCount_0f7a4 fu x0 M = some rr) : xMet l D cA sA yJ6_bitCount_0f7a4 cJ6_bitCount_0f7a4 1 (some .int) xG (0 + 1) 0 0 [.inl x0] M (some (.inl rr.1)) rr.2 :=
  xmet_of (by decide +kernel) (Nat.le_of_ble_eq_true rfl) (fun p e s1 m ag below meth c0 A0 ad0 Z X hn hE => wx_J6_bitCount_0f7a4 X hn ⟨Nat.le_refl _, Nat.le_refl _⟩ hE fu x0 M h)
theorem hw_J6_bitCount_0f7a4 (l : Launch) (D : va_G) (cA : Nat → ClassId) (sA : Nat → Nat) (fu : Nat) {ρ : Type} {r0 : ρ} (kd1 : Nat) (hk2 : kd1 = 2) : ∀ (as : List xV) (M : xM) (k : Option xV → xM → Option ρ), w_J6_bitCount_0f7a4 fu as M k = some r0 → ∃ v M', xMet l D cA sA yJ6_bitCount_0f7a4 cJ6_bitCount_0f7a4 1 (some .int) xG (0 + 1) 0 0 as M v M' ∧ k v M' = some r0 ∧ (kd1 ≠ 2 → ∃ a as', as = .inr (.inr (0, some a)) :: as') := by
  intro as M k h
  unfold w_J6_bitCount_0f7a4 at h
  replace h := pI_some h
  obtain ⟨x0, as1, rfl, h⟩ := h
  replace h := xe_some h
  obtain ⟨rfl, h⟩ := h
  obtain ⟨p1, hp, h⟩ := Option.bind_eq_some_iff.mp h
  exact ⟨_, _, ok_J6_bitCount_0f7a4 l D cA sA fu x0 M hp, h, fun z => absurd hk2 z⟩
theorem cd_X0_begunBlock : Cond.code yX0_begunBlock cX0_begunBlock 2 (some .int) ∈ xG := (xg 1174 (by decide +kernel) (by decide +kernel))
theorem pr_X0_begunBlock : (∀ e ∈ pX0_begunBlock, xrow cX0_begunBlock 2 kdX0 flX0 0 false RX0 e) ∧ xnext pX0_begunBlock = true := xrows (by decide +kernel)
set_option maxRecDepth 100000 in
theorem wx_X0_begunBlock_2 (X : xCtx p R S0 m ag c0 D cA A0 sA 2 cX0_begunBlock RX0 (.code yX0_begunBlock cX0_begunBlock 2 (some .int) :: xG) 0 0) (hi : meth.name = yX0_begunBlock.name) (hroom : 0 + 2 ≤ R.frames ∧ 60 * (0 + 2) ≤ R.locals) {rr : Int32 × xM} (hE : xEnd l D cA sA cX0_begunBlock 2 (some .int) R 0 0 (some (.inl rr.1)) rr.2 p e S0 m ag below meth c0 A0 M0 ad0 Z) (fu : Nat) : ∀ (n : Nat) (s : Nat) (x1 : Int32) (M : xM), L_X0_begunBlock_2 fu n s x1 M = some rr → xWx p l e R S0 m ag below meth c0 D cA A0 sA M0 ad0 2 Z 0 0 2 0 0 [(0, .inr (.inr (0, some s))), (1, .inl x1)] [] M := by
  intro n
  induction n with
  | zero => intro s x1 M h; cases h
  | succ n ih =>
    intro s x1 M h
    rw [← q_X0_begunBlock_2 fu n s x1 M] at h
    have hT : ∀ w ∈ xG, w ∈ (Cond.code yX0_begunBlock cX0_begunBlock 2 (some .int) :: xG) := fun w hw => List.mem_cons_of_mem _ hw
    refine xrun_sound (nst := 0) (isInit := false) (kd := kdX0) X (xcls_mono hT xclsG) (xpool_mono hT plX0) (fun z => by cases z) (fun idx v hf => xkoE_mono hT (koX0_ok _ (xfind_mem hf))) (xents (ca := _) ?_) (endI hE).1 (endI hE).2 (xcuts (cu := _) ?_) pr_X0_begunBlock.1 pr_X0_begunBlock.2 _ _ _ _ _ _ _ _ (xat_ok pr_X0_begunBlock.1 pr_X0_begunBlock.2).1 (xat_ok pr_X0_begunBlock.1 pr_X0_begunBlock.2).2.1 (xat_ok pr_X0_begunBlock.1 pr_X0_begunBlock.2).2.2 h
    · exact (fun _ h => nomatch h)
    · refine (List.forall_mem_cons.mpr ⟨?_, (fun _ h => nomatch h)⟩)
      · intro bc bs ls st M h
        replace h := xz_some h
        obtain ⟨rfl, rfl, h⟩ := h
        replace h := lR_some h
        obtain ⟨o, e0, h⟩ := h
        replace h := bd_some h
        obtain ⟨s', rfl, h⟩ := h
        replace h := lI_some h
        obtain ⟨x1', e1, h⟩ := h
        replace h := xe_some h
        obtain ⟨rfl, h⟩ := h
        exact xWx_ls (ih s' x1' M h) (List.forall_mem_cons.mpr ⟨e0, (List.forall_mem_cons.mpr ⟨e1, (fun _ h => nomatch h)⟩)⟩)

set_option maxRecDepth 100000 in
theorem wx_X0_begunBlock (X : xCtx p R S0 m ag c0 D cA A0 sA 2 cX0_begunBlock RX0 (.code yX0_begunBlock cX0_begunBlock 2 (some .int) :: xG) 0 0) (hi : meth.name = yX0_begunBlock.name) (hroom : 0 + 2 ≤ R.frames ∧ 60 * (0 + 2) ≤ R.locals) {rr : Int32 × xM} (hE : xEnd l D cA sA cX0_begunBlock 2 (some .int) R 0 0 (some (.inl rr.1)) rr.2 p e S0 m ag below meth c0 A0 M0 ad0 Z) (fu : Nat) (s : Nat) (M : xM) (h : F_X0_begunBlock fu s M = some rr) : xWx p l e R S0 m ag below meth c0 D cA A0 sA M0 ad0 2 Z 0 0 0 0 0 [(0, .inr (.inr (0, some s)))] [] M := by
  rw [← q_X0_begunBlock fu s M] at h
  have hT : ∀ w ∈ xG, w ∈ (Cond.code yX0_begunBlock cX0_begunBlock 2 (some .int) :: xG) := fun w hw => List.mem_cons_of_mem _ hw
  refine xrun_sound (nst := 0) (isInit := false) (kd := kdX0) X (xcls_mono hT xclsG) (xpool_mono hT plX0) (fun z => by cases z) (fun idx v hf => xkoE_mono hT (koX0_ok _ (xfind_mem hf))) (xents (ca := _) ?_) (endI hE).1 (endI hE).2 (xcuts (cu := _) ?_) pr_X0_begunBlock.1 pr_X0_begunBlock.2 _ _ _ _ _ _ _ _ (xat_ok pr_X0_begunBlock.1 pr_X0_begunBlock.2).1 (xat_ok pr_X0_begunBlock.1 pr_X0_begunBlock.2).2.1 (xat_ok pr_X0_begunBlock.1 pr_X0_begunBlock.2).2.2 h
  · exact (fun _ h => nomatch h)
  · refine (List.forall_mem_cons.mpr ⟨?_, (fun _ h => nomatch h)⟩)
    · intro bc bs ls st M h
      replace h := xz_some h
      obtain ⟨rfl, rfl, h⟩ := h
      replace h := lR_some h
      obtain ⟨o, e0, h⟩ := h
      replace h := bd_some h
      obtain ⟨s', rfl, h⟩ := h
      replace h := lI_some h
      obtain ⟨x1', e1, h⟩ := h
      replace h := xe_some h
      obtain ⟨rfl, h⟩ := h
      exact xWx_ls (wx_X0_begunBlock_2 X hi hroom hE fu fu s' x1' M h) (List.forall_mem_cons.mpr ⟨e0, (List.forall_mem_cons.mpr ⟨e1, (fun _ h => nomatch h)⟩)⟩)

theorem ok_X0_begunBlock (l : Launch) (D : va_G) (cA : Nat → ClassId) (sA : Nat → Nat) (fu : Nat) (s : Nat) (M : xM) {rr : Int32 × xM} (h : F_X0_begunBlock fu s M = some rr) : xMet l D cA sA yX0_begunBlock cX0_begunBlock 2 (some .int) xG (0 + 1) 0 0 [.inr (.inr (0, some s))] M (some (.inl rr.1)) rr.2 :=
  xmet_of (by decide +kernel) (Nat.le_of_ble_eq_true rfl) (fun p e s1 m ag below meth c0 A0 ad0 Z X hn hE => wx_X0_begunBlock X hn ⟨Nat.le_refl _, Nat.le_refl _⟩ hE fu s M h)
theorem hw_X0_begunBlock (l : Launch) (D : va_G) (cA : Nat → ClassId) (sA : Nat → Nat) (fu : Nat) {ρ : Type} {r0 : ρ} (kd1 : Nat) : ∀ (as : List xV) (M : xM) (k : Option xV → xM → Option ρ), w_X0_begunBlock fu as M k = some r0 → ∃ v M', xMet l D cA sA yX0_begunBlock cX0_begunBlock 2 (some .int) xG (0 + 1) 0 0 as M v M' ∧ k v M' = some r0 ∧ (kd1 ≠ 2 → ∃ a as', as = .inr (.inr (0, some a)) :: as') := by
  intro as M k h
  unfold w_X0_begunBlock at h
  replace h := pR_some h
  obtain ⟨o, as1, rfl, h⟩ := h
  replace h := bd_some h
  obtain ⟨s, rfl, h⟩ := h
  replace h := xe_some h
  obtain ⟨rfl, h⟩ := h
  obtain ⟨p1, hp, h⟩ := Option.bind_eq_some_iff.mp h
  exact ⟨_, _, ok_X0_begunBlock l D cA sA fu s M hp, h, fun _ => ⟨_, _, rfl⟩⟩
theorem cd_X0_copyFrom : Cond.code yX0_copyFrom cX0_copyFrom 2 none ∈ xG := (xg 1260 (by decide +kernel) (by decide +kernel))
theorem pr_X0_copyFrom : (∀ e ∈ pX0_copyFrom, xrow cX0_copyFrom 2 kdX0 flX0 0 false RX0 e) ∧ xnext pX0_copyFrom = true := xrows (by decide +kernel)
set_option maxRecDepth 100000 in
theorem wx_X0_copyFrom (X : xCtx p R S0 m ag c0 D cA A0 sA 2 cX0_copyFrom RX0 (.code yX0_copyFrom cX0_copyFrom 2 none :: xG) 0 0) (hi : meth.name = yX0_copyFrom.name) (hroom : 0 + 2 ≤ R.frames ∧ 60 * (0 + 2) ≤ R.locals) {rr : xM} (hE : xEnd l D cA sA cX0_copyFrom 2 none R 0 0 none rr p e S0 m ag below meth c0 A0 M0 ad0 Z) (fu : Nat) (s : Nat) (x1 : Option Nat) (M : xM) (h : F_X0_copyFrom fu s x1 M = some rr) : xWx p l e R S0 m ag below meth c0 D cA A0 sA M0 ad0 2 Z 0 0 0 0 0 [(0, .inr (.inr (0, some s))), (1, .inr (.inr (0, x1)))] [] M := by
  rw [← q_X0_copyFrom fu s x1 M] at h
  have hT : ∀ w ∈ xG, w ∈ (Cond.code yX0_copyFrom cX0_copyFrom 2 none :: xG) := fun w hw => List.mem_cons_of_mem _ hw
  refine xrun_sound (nst := 0) (isInit := false) (kd := kdX0) X (xcls_mono hT xclsG) (xpool_mono hT plX0) (fun z => by cases z) (fun idx v hf => xkoE_mono hT (koX0_ok _ (xfind_mem hf))) (xents (ca := _) ?_) (endV hE).1 (endV hE).2 (xcuts (cu := _) ?_) pr_X0_copyFrom.1 pr_X0_copyFrom.2 _ _ _ _ _ _ _ _ (xat_ok pr_X0_copyFrom.1 pr_X0_copyFrom.2).1 (xat_ok pr_X0_copyFrom.1 pr_X0_copyFrom.2).2.1 (xat_ok pr_X0_copyFrom.1 pr_X0_copyFrom.2).2.2 h
  · exact (List.forall_mem_cons.mpr ⟨(xent_arraycopy X hT (xg 1261 (by decide +kernel) (by decide +kernel)) (xg 1063 (by decide +kernel) (by decide +kernel)) (xg 1062 (by decide +kernel) (by decide +kernel)) (xg 147 (by decide +kernel) (by decide +kernel)) rfl), (fun _ h => nomatch h)⟩)
  · exact (fun _ h => nomatch h)

theorem ok_X0_copyFrom (l : Launch) (D : va_G) (cA : Nat → ClassId) (sA : Nat → Nat) (fu : Nat) (s : Nat) (x1 : Option Nat) (M : xM) {rr : xM} (h : F_X0_copyFrom fu s x1 M = some rr) : xMet l D cA sA yX0_copyFrom cX0_copyFrom 2 none xG (0 + 1) 0 0 [.inr (.inr (0, some s)), .inr (.inr (0, x1))] M none rr :=
  xmet_of (by decide +kernel) (Nat.le_of_ble_eq_true rfl) (fun p e s1 m ag below meth c0 A0 ad0 Z X hn hE => wx_X0_copyFrom X hn ⟨Nat.le_refl _, Nat.le_refl _⟩ hE fu s x1 M h)
theorem hw_X0_copyFrom (l : Launch) (D : va_G) (cA : Nat → ClassId) (sA : Nat → Nat) (fu : Nat) {ρ : Type} {r0 : ρ} (kd1 : Nat) : ∀ (as : List xV) (M : xM) (k : Option xV → xM → Option ρ), w_X0_copyFrom fu as M k = some r0 → ∃ v M', xMet l D cA sA yX0_copyFrom cX0_copyFrom 2 none xG (0 + 1) 0 0 as M v M' ∧ k v M' = some r0 ∧ (kd1 ≠ 2 → ∃ a as', as = .inr (.inr (0, some a)) :: as') := by
  intro as M k h
  unfold w_X0_copyFrom at h
  replace h := pR_some h
  obtain ⟨o, as1, rfl, h⟩ := h
  replace h := bd_some h
  obtain ⟨s, rfl, h⟩ := h
  replace h := pR_some h
  obtain ⟨x1, as1, rfl, h⟩ := h
  replace h := xe_some h
  obtain ⟨rfl, h⟩ := h
  obtain ⟨p1, hp, h⟩ := Option.bind_eq_some_iff.mp h
  exact ⟨_, _, ok_X0_copyFrom l D cA sA fu s x1 M hp, h, fun _ => ⟨_, _, rfl⟩⟩
theorem cd_X0_fill : Cond.code yX0_fill cX0_fill 7 none ∈ xG := (xg 434 (by decide +kernel) (by decide +kernel))
theorem pr_X0_fill : (∀ e ∈ pX0_fill, xrow cX0_fill 7 kdX0 flX0 0 false RX0 e) ∧ xnext pX0_fill = true := xrows (by decide +kernel)
set_option maxRecDepth 100000 in
theorem wx_X0_fill (X : xCtx p R S0 m ag c0 D cA A0 sA 7 cX0_fill RX0 (.code yX0_fill cX0_fill 7 none :: xG) 0 0) (hi : meth.name = yX0_fill.name) (hroom : 0 + 2 ≤ R.frames ∧ 60 * (0 + 2) ≤ R.locals) {rr : xM} (hE : xEnd l D cA sA cX0_fill 7 none R 0 0 none rr p e S0 m ag below meth c0 A0 M0 ad0 Z) (fu : Nat) (s : Nat) (x1 : Int32) (x2 : Int32) (x3 : Int32) (x4 : Int32) (x5 : Int32) (x6 : Int32) (M : xM) (h : F_X0_fill fu s x1 x2 x3 x4 x5 x6 M = some rr) : xWx p l e R S0 m ag below meth c0 D cA A0 sA M0 ad0 7 Z 0 0 0 0 0 [(0, .inr (.inr (0, some s))), (1, .inl x1), (2, .inl x2), (3, .inl x3), (4, .inl x4), (5, .inl x5), (6, .inl x6)] [] M := by
  rw [← q_X0_fill fu s x1 x2 x3 x4 x5 x6 M] at h
  have hT : ∀ w ∈ xG, w ∈ (Cond.code yX0_fill cX0_fill 7 none :: xG) := fun w hw => List.mem_cons_of_mem _ hw
  refine xrun_sound (nst := 0) (isInit := false) (kd := kdX0) X (xcls_mono hT xclsG) (xpool_mono hT plX0) (fun z => by cases z) (fun idx v hf => xkoE_mono hT (koX0_ok _ (xfind_mem hf))) (xents (ca := _) ?_) (endV hE).1 (endV hE).2 (xcuts (cu := _) ?_) pr_X0_fill.1 pr_X0_fill.2 _ _ _ _ _ _ _ _ (xat_ok pr_X0_fill.1 pr_X0_fill.2).1 (xat_ok pr_X0_fill.1 pr_X0_fill.2).2.1 (xat_ok pr_X0_fill.1 pr_X0_fill.2).2.2 h
  · exact (fun _ h => nomatch h)
  · exact (fun _ h => nomatch h)

theorem ok_X0_fill (l : Launch) (D : va_G) (cA : Nat → ClassId) (sA : Nat → Nat) (fu : Nat) (s : Nat) (x1 : Int32) (x2 : Int32) (x3 : Int32) (x4 : Int32) (x5 : Int32) (x6 : Int32) (M : xM) {rr : xM} (h : F_X0_fill fu s x1 x2 x3 x4 x5 x6 M = some rr) : xMet l D cA sA yX0_fill cX0_fill 7 none xG (0 + 1) 0 0 [.inr (.inr (0, some s)), .inl x1, .inl x2, .inl x3, .inl x4, .inl x5, .inl x6] M none rr :=
  xmet_of (by decide +kernel) (Nat.le_of_ble_eq_true rfl) (fun p e s1 m ag below meth c0 A0 ad0 Z X hn hE => wx_X0_fill X hn ⟨Nat.le_refl _, Nat.le_refl _⟩ hE fu s x1 x2 x3 x4 x5 x6 M h)
theorem hw_X0_fill (l : Launch) (D : va_G) (cA : Nat → ClassId) (sA : Nat → Nat) (fu : Nat) {ρ : Type} {r0 : ρ} (kd1 : Nat) : ∀ (as : List xV) (M : xM) (k : Option xV → xM → Option ρ), w_X0_fill fu as M k = some r0 → ∃ v M', xMet l D cA sA yX0_fill cX0_fill 7 none xG (0 + 1) 0 0 as M v M' ∧ k v M' = some r0 ∧ (kd1 ≠ 2 → ∃ a as', as = .inr (.inr (0, some a)) :: as') := by
  intro as M k h
  unfold w_X0_fill at h
  replace h := pR_some h
  obtain ⟨o, as1, rfl, h⟩ := h
  replace h := bd_some h
  obtain ⟨s, rfl, h⟩ := h
  replace h := pI_some h
  obtain ⟨x1, as1, rfl, h⟩ := h
  replace h := pI_some h
  obtain ⟨x2, as1, rfl, h⟩ := h
  replace h := pI_some h
  obtain ⟨x3, as1, rfl, h⟩ := h
  replace h := pI_some h
  obtain ⟨x4, as1, rfl, h⟩ := h
  replace h := pI_some h
  obtain ⟨x5, as1, rfl, h⟩ := h
  replace h := pI_some h
  obtain ⟨x6, as1, rfl, h⟩ := h
  replace h := xe_some h
  obtain ⟨rfl, h⟩ := h
  obtain ⟨p1, hp, h⟩ := Option.bind_eq_some_iff.mp h
  exact ⟨_, _, ok_X0_fill l D cA sA fu s x1 x2 x3 x4 x5 x6 M hp, h, fun _ => ⟨_, _, rfl⟩⟩
theorem lk_X0_76 : xLink xG RX0 76 0 yX0_fill 6 := ⟨Or.inl (xg 431 (by decide +kernel) (by decide +kernel)), (xg 432 (by decide +kernel) (by decide +kernel)), (xg 433 (by decide +kernel) (by decide +kernel)), (xg 135 (by decide +kernel) (by decide +kernel)), ⟨0, by decide, TX0, 16, rfl⟩⟩
theorem cd_X0_copyNode : Cond.code yX0_copyNode cX0_copyNode 4 none ∈ xG := (xg 1068 (by decide +kernel) (by decide +kernel))
theorem pr_X0_copyNode : (∀ e ∈ pX0_copyNode, xrow cX0_copyNode 4 kdX0 flX0 0 false RX0 e) ∧ xnext pX0_copyNode = true := xrows (by decide +kernel)
set_option maxRecDepth 100000 in
theorem wx_X0_copyNode_37 (X : xCtx p R S0 m ag c0 D cA A0 sA 4 cX0_copyNode RX0 (.code yX0_copyNode cX0_copyNode 4 none :: xG) 0 0) (hi : meth.name = yX0_copyNode.name) (hroom : 1 + 2 ≤ R.frames ∧ 60 * (1 + 2) ≤ R.locals) {rr : xM} (hE : xEnd l D cA sA cX0_copyNode 4 none R 0 0 none rr p e S0 m ag below meth c0 A0 M0 ad0 Z) (fu : Nat) : ∀ (n : Nat) (s : Nat) (x1 : Int32) (x2 : Int32) (x3 : Int32) (M : xM), L_X0_copyNode_37 fu n s x1 x2 x3 M = some rr → xWx p l e R S0 m ag below meth c0 D cA A0 sA M0 ad0 4 Z 0 0 37 0 0 [(0, .inr (.inr (0, some s))), (1, .inl x1), (2, .inl x2), (3, .inl x3)] [] M := by
  intro n
  induction n with
  | zero => intro s x1 x2 x3 M h; cases h
  | succ n ih =>
    intro s x1 x2 x3 M h
    rw [← q_X0_copyNode_37 fu n s x1 x2 x3 M] at h
    have hT : ∀ w ∈ xG, w ∈ (Cond.code yX0_copyNode cX0_copyNode 4 none :: xG) := fun w hw => List.mem_cons_of_mem _ hw
    refine xrun_sound (nst := 0) (isInit := false) (kd := kdX0) X (xcls_mono hT xclsG) (xpool_mono hT plX0) (fun z => by cases z) (fun idx v hf => xkoE_mono hT (koX0_ok _ (xfind_mem hf))) (xents (ca := _) ?_) (endV hE).1 (endV hE).2 (xcuts (cu := _) ?_) pr_X0_copyNode.1 pr_X0_copyNode.2 _ _ _ _ _ _ _ _ (xat_ok pr_X0_copyNode.1 pr_X0_copyNode.2).1 (xat_ok pr_X0_copyNode.1 pr_X0_copyNode.2).2.1 (xat_ok pr_X0_copyNode.1 pr_X0_copyNode.2).2.2 h
    · exact (fun _ h => nomatch h)
    · refine (List.forall_mem_cons.mpr ⟨?_, (fun _ h => nomatch h)⟩)
      · intro bc bs ls st M h
        replace h := xz_some h
        obtain ⟨rfl, rfl, h⟩ := h
        replace h := lR_some h
        obtain ⟨o, e0, h⟩ := h
        replace h := bd_some h
        obtain ⟨s', rfl, h⟩ := h
        replace h := lI_some h
        obtain ⟨x1', e1, h⟩ := h
        replace h := lI_some h
        obtain ⟨x2', e2, h⟩ := h
        replace h := lI_some h
        obtain ⟨x3', e3, h⟩ := h
        replace h := xe_some h
        obtain ⟨rfl, h⟩ := h
        exact xWx_ls (ih s' x1' x2' x3' M h) (List.forall_mem_cons.mpr ⟨e0, (List.forall_mem_cons.mpr ⟨e1, (List.forall_mem_cons.mpr ⟨e2, (List.forall_mem_cons.mpr ⟨e3, (fun _ h => nomatch h)⟩)⟩)⟩)⟩)

set_option maxRecDepth 100000 in
theorem wx_X0_copyNode (X : xCtx p R S0 m ag c0 D cA A0 sA 4 cX0_copyNode RX0 (.code yX0_copyNode cX0_copyNode 4 none :: xG) 0 0) (hi : meth.name = yX0_copyNode.name) (hroom : 1 + 2 ≤ R.frames ∧ 60 * (1 + 2) ≤ R.locals) {rr : xM} (hE : xEnd l D cA sA cX0_copyNode 4 none R 0 0 none rr p e S0 m ag below meth c0 A0 M0 ad0 Z) (fu : Nat) (s : Nat) (x1 : Int32) (x2 : Int32) (M : xM) (h : F_X0_copyNode fu s x1 x2 M = some rr) : xWx p l e R S0 m ag below meth c0 D cA A0 sA M0 ad0 4 Z 0 0 0 0 0 [(0, .inr (.inr (0, some s))), (1, .inl x1), (2, .inl x2)] [] M := by
  rw [← q_X0_copyNode fu s x1 x2 M] at h
  have hT : ∀ w ∈ xG, w ∈ (Cond.code yX0_copyNode cX0_copyNode 4 none :: xG) := fun w hw => List.mem_cons_of_mem _ hw
  refine xrun_sound (nst := 0) (isInit := false) (kd := kdX0) X (xcls_mono hT xclsG) (xpool_mono hT plX0) (fun z => by cases z) (fun idx v hf => xkoE_mono hT (koX0_ok _ (xfind_mem hf))) (xents (ca := _) ?_) (endV hE).1 (endV hE).2 (xcuts (cu := _) ?_) pr_X0_copyNode.1 pr_X0_copyNode.2 _ _ _ _ _ _ _ _ (xat_ok pr_X0_copyNode.1 pr_X0_copyNode.2).1 (xat_ok pr_X0_copyNode.1 pr_X0_copyNode.2).2.1 (xat_ok pr_X0_copyNode.1 pr_X0_copyNode.2).2.2 h
  · exact (List.forall_mem_cons.mpr ⟨(xent_met X (ci := 0) hT cd_X0_fill lk_X0_76 rfl (by decide) rfl (by decide +kernel) (fun z => absurd z (by decide)) (hw_X0_fill l D cA sA fu 0) (fun _ => ⟨by decide, fun _ => ⟨TX0, 16, rfl⟩⟩) (by constructor <;> omega) (by decide)), (fun _ h => nomatch h)⟩)
  · refine (List.forall_mem_cons.mpr ⟨?_, (fun _ h => nomatch h)⟩)
    · intro bc bs ls st M h
      replace h := xz_some h
      obtain ⟨rfl, rfl, h⟩ := h
      replace h := lR_some h
      obtain ⟨o, e0, h⟩ := h
      replace h := bd_some h
      obtain ⟨s', rfl, h⟩ := h
      replace h := lI_some h
      obtain ⟨x1', e1, h⟩ := h
      replace h := lI_some h
      obtain ⟨x2', e2, h⟩ := h
      replace h := lI_some h
      obtain ⟨x3', e3, h⟩ := h
      replace h := xe_some h
      obtain ⟨rfl, h⟩ := h
      exact xWx_ls (wx_X0_copyNode_37 X hi hroom hE fu fu s' x1' x2' x3' M h) (List.forall_mem_cons.mpr ⟨e0, (List.forall_mem_cons.mpr ⟨e1, (List.forall_mem_cons.mpr ⟨e2, (List.forall_mem_cons.mpr ⟨e3, (fun _ h => nomatch h)⟩)⟩)⟩)⟩)

theorem ok_X0_copyNode (l : Launch) (D : va_G) (cA : Nat → ClassId) (sA : Nat → Nat) (fu : Nat) (s : Nat) (x1 : Int32) (x2 : Int32) (M : xM) {rr : xM} (h : F_X0_copyNode fu s x1 x2 M = some rr) : xMet l D cA sA yX0_copyNode cX0_copyNode 4 none xG (1 + 1) 0 0 [.inr (.inr (0, some s)), .inl x1, .inl x2] M none rr :=
  xmet_of (by decide +kernel) (Nat.le_of_ble_eq_true rfl) (fun p e s1 m ag below meth c0 A0 ad0 Z X hn hE => wx_X0_copyNode X hn ⟨Nat.le_refl _, Nat.le_refl _⟩ hE fu s x1 x2 M h)
theorem hw_X0_copyNode (l : Launch) (D : va_G) (cA : Nat → ClassId) (sA : Nat → Nat) (fu : Nat) {ρ : Type} {r0 : ρ} (kd1 : Nat) : ∀ (as : List xV) (M : xM) (k : Option xV → xM → Option ρ), w_X0_copyNode fu as M k = some r0 → ∃ v M', xMet l D cA sA yX0_copyNode cX0_copyNode 4 none xG (1 + 1) 0 0 as M v M' ∧ k v M' = some r0 ∧ (kd1 ≠ 2 → ∃ a as', as = .inr (.inr (0, some a)) :: as') := by
  intro as M k h
  unfold w_X0_copyNode at h
  replace h := pR_some h
  obtain ⟨o, as1, rfl, h⟩ := h
  replace h := bd_some h
  obtain ⟨s, rfl, h⟩ := h
  replace h := pI_some h
  obtain ⟨x1, as1, rfl, h⟩ := h
  replace h := pI_some h
  obtain ⟨x2, as1, rfl, h⟩ := h
  replace h := xe_some h
  obtain ⟨rfl, h⟩ := h
  obtain ⟨p1, hp, h⟩ := Option.bind_eq_some_iff.mp h
  exact ⟨_, _, ok_X0_copyNode l D cA sA fu s x1 x2 M hp, h, fun _ => ⟨_, _, rfl⟩⟩
theorem cd_X0_isLeast : Cond.code yX0_isLeast cX0_isLeast 3 (some .boolean) ∈ xG := (xg 939 (by decide +kernel) (by decide +kernel))
theorem pr_X0_isLeast : (∀ e ∈ pX0_isLeast, xrow cX0_isLeast 3 kdX0 flX0 0 false RX0 e) ∧ xnext pX0_isLeast = true := xrows (by decide +kernel)
set_option maxRecDepth 100000 in
theorem wx_X0_isLeast_2 (X : xCtx p R S0 m ag c0 D cA A0 sA 3 cX0_isLeast RX0 (.code yX0_isLeast cX0_isLeast 3 (some .boolean) :: xG) 0 0) (hi : meth.name = yX0_isLeast.name) (hroom : 0 + 2 ≤ R.frames ∧ 60 * (0 + 2) ≤ R.locals) {rr : Int32 × xM} (hE : xEnd l D cA sA cX0_isLeast 3 (some .boolean) R 0 0 (some (.inl rr.1)) rr.2 p e S0 m ag below meth c0 A0 M0 ad0 Z) (fu : Nat) : ∀ (n : Nat) (s : Nat) (x1 : Int32) (x2 : Int32) (M : xM), L_X0_isLeast_2 fu n s x1 x2 M = some rr → xWx p l e R S0 m ag below meth c0 D cA A0 sA M0 ad0 3 Z 0 0 2 0 0 [(0, .inr (.inr (0, some s))), (1, .inl x1), (2, .inl x2)] [] M := by
  intro n
  induction n with
  | zero => intro s x1 x2 M h; cases h
  | succ n ih =>
    intro s x1 x2 M h
    rw [← q_X0_isLeast_2 fu n s x1 x2 M] at h
    have hT : ∀ w ∈ xG, w ∈ (Cond.code yX0_isLeast cX0_isLeast 3 (some .boolean) :: xG) := fun w hw => List.mem_cons_of_mem _ hw
    refine xrun_sound (nst := 0) (isInit := false) (kd := kdX0) X (xcls_mono hT xclsG) (xpool_mono hT plX0) (fun z => by cases z) (fun idx v hf => xkoE_mono hT (koX0_ok _ (xfind_mem hf))) (xents (ca := _) ?_) (endZ hE).1 (endZ hE).2 (xcuts (cu := _) ?_) pr_X0_isLeast.1 pr_X0_isLeast.2 _ _ _ _ _ _ _ _ (xat_ok pr_X0_isLeast.1 pr_X0_isLeast.2).1 (xat_ok pr_X0_isLeast.1 pr_X0_isLeast.2).2.1 (xat_ok pr_X0_isLeast.1 pr_X0_isLeast.2).2.2 h
    · exact (fun _ h => nomatch h)
    · refine (List.forall_mem_cons.mpr ⟨?_, (fun _ h => nomatch h)⟩)
      · intro bc bs ls st M h
        replace h := xz_some h
        obtain ⟨rfl, rfl, h⟩ := h
        replace h := lR_some h
        obtain ⟨o, e0, h⟩ := h
        replace h := bd_some h
        obtain ⟨s', rfl, h⟩ := h
        replace h := lI_some h
        obtain ⟨x1', e1, h⟩ := h
        replace h := lI_some h
        obtain ⟨x2', e2, h⟩ := h
        replace h := xe_some h
        obtain ⟨rfl, h⟩ := h
        exact xWx_ls (ih s' x1' x2' M h) (List.forall_mem_cons.mpr ⟨e0, (List.forall_mem_cons.mpr ⟨e1, (List.forall_mem_cons.mpr ⟨e2, (fun _ h => nomatch h)⟩)⟩)⟩)

set_option maxRecDepth 100000 in
theorem wx_X0_isLeast (X : xCtx p R S0 m ag c0 D cA A0 sA 3 cX0_isLeast RX0 (.code yX0_isLeast cX0_isLeast 3 (some .boolean) :: xG) 0 0) (hi : meth.name = yX0_isLeast.name) (hroom : 0 + 2 ≤ R.frames ∧ 60 * (0 + 2) ≤ R.locals) {rr : Int32 × xM} (hE : xEnd l D cA sA cX0_isLeast 3 (some .boolean) R 0 0 (some (.inl rr.1)) rr.2 p e S0 m ag below meth c0 A0 M0 ad0 Z) (fu : Nat) (s : Nat) (x1 : Int32) (M : xM) (h : F_X0_isLeast fu s x1 M = some rr) : xWx p l e R S0 m ag below meth c0 D cA A0 sA M0 ad0 3 Z 0 0 0 0 0 [(0, .inr (.inr (0, some s))), (1, .inl x1)] [] M := by
  rw [← q_X0_isLeast fu s x1 M] at h
  have hT : ∀ w ∈ xG, w ∈ (Cond.code yX0_isLeast cX0_isLeast 3 (some .boolean) :: xG) := fun w hw => List.mem_cons_of_mem _ hw
  refine xrun_sound (nst := 0) (isInit := false) (kd := kdX0) X (xcls_mono hT xclsG) (xpool_mono hT plX0) (fun z => by cases z) (fun idx v hf => xkoE_mono hT (koX0_ok _ (xfind_mem hf))) (xents (ca := _) ?_) (endZ hE).1 (endZ hE).2 (xcuts (cu := _) ?_) pr_X0_isLeast.1 pr_X0_isLeast.2 _ _ _ _ _ _ _ _ (xat_ok pr_X0_isLeast.1 pr_X0_isLeast.2).1 (xat_ok pr_X0_isLeast.1 pr_X0_isLeast.2).2.1 (xat_ok pr_X0_isLeast.1 pr_X0_isLeast.2).2.2 h
  · exact (fun _ h => nomatch h)
  · refine (List.forall_mem_cons.mpr ⟨?_, (fun _ h => nomatch h)⟩)
    · intro bc bs ls st M h
      replace h := xz_some h
      obtain ⟨rfl, rfl, h⟩ := h
      replace h := lR_some h
      obtain ⟨o, e0, h⟩ := h
      replace h := bd_some h
      obtain ⟨s', rfl, h⟩ := h
      replace h := lI_some h
      obtain ⟨x1', e1, h⟩ := h
      replace h := lI_some h
      obtain ⟨x2', e2, h⟩ := h
      replace h := xe_some h
      obtain ⟨rfl, h⟩ := h
      exact xWx_ls (wx_X0_isLeast_2 X hi hroom hE fu fu s' x1' x2' M h) (List.forall_mem_cons.mpr ⟨e0, (List.forall_mem_cons.mpr ⟨e1, (List.forall_mem_cons.mpr ⟨e2, (fun _ h => nomatch h)⟩)⟩)⟩)

theorem ok_X0_isLeast (l : Launch) (D : va_G) (cA : Nat → ClassId) (sA : Nat → Nat) (fu : Nat) (s : Nat) (x1 : Int32) (M : xM) {rr : Int32 × xM} (h : F_X0_isLeast fu s x1 M = some rr) : xMet l D cA sA yX0_isLeast cX0_isLeast 3 (some .boolean) xG (0 + 1) 0 0 [.inr (.inr (0, some s)), .inl x1] M (some (.inl rr.1)) rr.2 :=
  xmet_of (by decide +kernel) (Nat.le_of_ble_eq_true rfl) (fun p e s1 m ag below meth c0 A0 ad0 Z X hn hE => wx_X0_isLeast X hn ⟨Nat.le_refl _, Nat.le_refl _⟩ hE fu s x1 M h)
theorem hw_X0_isLeast (l : Launch) (D : va_G) (cA : Nat → ClassId) (sA : Nat → Nat) (fu : Nat) {ρ : Type} {r0 : ρ} (kd1 : Nat) : ∀ (as : List xV) (M : xM) (k : Option xV → xM → Option ρ), w_X0_isLeast fu as M k = some r0 → ∃ v M', xMet l D cA sA yX0_isLeast cX0_isLeast 3 (some .boolean) xG (0 + 1) 0 0 as M v M' ∧ k v M' = some r0 ∧ (kd1 ≠ 2 → ∃ a as', as = .inr (.inr (0, some a)) :: as') := by
  intro as M k h
  unfold w_X0_isLeast at h
  replace h := pR_some h
  obtain ⟨o, as1, rfl, h⟩ := h
  replace h := bd_some h
  obtain ⟨s, rfl, h⟩ := h
  replace h := pI_some h
  obtain ⟨x1, as1, rfl, h⟩ := h
  replace h := xe_some h
  obtain ⟨rfl, h⟩ := h
  obtain ⟨p1, hp, h⟩ := Option.bind_eq_some_iff.mp h
  exact ⟨_, _, ok_X0_isLeast l D cA sA fu s x1 M hp, h, fun _ => ⟨_, _, rfl⟩⟩
theorem lk_X0_94 : xLink xG RX0 94 0 yX0_isLeast 1 := ⟨Or.inl (xg 1326 (by decide +kernel) (by decide +kernel)), (xg 937 (by decide +kernel) (by decide +kernel)), (xg 938 (by decide +kernel) (by decide +kernel)), (xg 135 (by decide +kernel) (by decide +kernel)), ⟨0, by decide, TX0, 16, rfl⟩⟩
theorem cd_X0_countData : Cond.code yX0_countData cX0_countData 7 (some .int) ∈ xG := (xg 1325 (by decide +kernel) (by decide +kernel))
theorem pr_X0_countData : (∀ e ∈ pX0_countData, xrow cX0_countData 7 kdX0 flX0 0 false RX0 e) ∧ xnext pX0_countData = true := xrows (by decide +kernel)
set_option maxRecDepth 100000 in
theorem wx_X0_countData_53 (X : xCtx p R S0 m ag c0 D cA A0 sA 7 cX0_countData RX0 (.code yX0_countData cX0_countData 7 (some .int) :: xG) 0 0) (hi : meth.name = yX0_countData.name) (hroom : 1 + 2 ≤ R.frames ∧ 60 * (1 + 2) ≤ R.locals) {rr : Int32 × xM} (hE : xEnd l D cA sA cX0_countData 7 (some .int) R 0 0 (some (.inl rr.1)) rr.2 p e S0 m ag below meth c0 A0 M0 ad0 Z) (fu : Nat) (k6 : Nat → Int32 → Int32 → Int32 → Int32 → Int32 → xM → Option (Int32 × xM)) (hk6 : ∀ (s : Nat) (x1 : Int32) (x2 : Int32) (x3 : Int32) (x4 : Int32) (x5 : Int32) (M : xM), k6 s x1 x2 x3 x4 x5 M = some rr → xWx p l e R S0 m ag below meth c0 D cA A0 sA M0 ad0 7 Z 0 0 6 0 0 [(0, .inr (.inr (0, some s))), (1, .inl x1), (2, .inl x2), (3, .inl x3), (4, .inl x4), (5, .inl x5)] [] M) (s : Nat) (x1 : Int32) (x2 : Int32) (x3 : Int32) (x4 : Int32) (x5 : Int32) (y0 : Int32) (M : xM) (h : J_X0_countData_53 fu k6 s x1 x2 x3 x4 x5 y0 M = some rr) : xWx p l e R S0 m ag below meth c0 D cA A0 sA M0 ad0 7 Z 0 0 53 0 0 [(0, .inr (.inr (0, some s))), (1, .inl x1), (2, .inl x2), (3, .inl x3), (4, .inl x4), (5, .inl x5)] [.inl y0] M := by
  rw [← q_X0_countData_53 fu k6 s x1 x2 x3 x4 x5 y0 M] at h
  have hT : ∀ w ∈ xG, w ∈ (Cond.code yX0_countData cX0_countData 7 (some .int) :: xG) := fun w hw => List.mem_cons_of_mem _ hw
  refine xrun_sound (nst := 0) (isInit := false) (kd := kdX0) X (xcls_mono hT xclsG) (xpool_mono hT plX0) (fun z => by cases z) (fun idx v hf => xkoE_mono hT (koX0_ok _ (xfind_mem hf))) (xents (ca := _) ?_) (endI hE).1 (endI hE).2 (xcuts (cu := _) ?_) pr_X0_countData.1 pr_X0_countData.2 _ _ _ _ _ _ _ _ (xat_ok pr_X0_countData.1 pr_X0_countData.2).1 (xat_ok pr_X0_countData.1 pr_X0_countData.2).2.1 (xat_ok pr_X0_countData.1 pr_X0_countData.2).2.2 h
  · exact (List.forall_mem_cons.mpr ⟨(xent_met X (ci := 0) hT cd_X0_isLeast lk_X0_94 rfl (by decide) rfl (by decide +kernel) (fun z => absurd z (by decide)) (hw_X0_isLeast l D cA sA fu 0) (fun _ => ⟨by decide, fun _ => ⟨TX0, 16, rfl⟩⟩) (by constructor <;> omega) (by decide)), (fun _ h => nomatch h)⟩)
  · refine (List.forall_mem_cons.mpr ⟨?_, (fun _ h => nomatch h)⟩)
    · intro bc bs ls st M h
      replace h := xz_some h
      obtain ⟨rfl, rfl, h⟩ := h
      replace h := lR_some h
      obtain ⟨o, e0, h⟩ := h
      replace h := bd_some h
      obtain ⟨s', rfl, h⟩ := h
      replace h := lI_some h
      obtain ⟨x1', e1, h⟩ := h
      replace h := lI_some h
      obtain ⟨x2', e2, h⟩ := h
      replace h := lI_some h
      obtain ⟨x3', e3, h⟩ := h
      replace h := lI_some h
      obtain ⟨x4', e4, h⟩ := h
      replace h := lI_some h
      obtain ⟨x5', e5, h⟩ := h
      replace h := xe_some h
      obtain ⟨rfl, h⟩ := h
      exact xWx_ls (hk6 s' x1' x2' x3' x4' x5' M h) (List.forall_mem_cons.mpr ⟨e0, (List.forall_mem_cons.mpr ⟨e1, (List.forall_mem_cons.mpr ⟨e2, (List.forall_mem_cons.mpr ⟨e3, (List.forall_mem_cons.mpr ⟨e4, (List.forall_mem_cons.mpr ⟨e5, (fun _ h => nomatch h)⟩)⟩)⟩)⟩)⟩)⟩)

set_option maxRecDepth 100000 in
theorem wx_X0_countData_6 (X : xCtx p R S0 m ag c0 D cA A0 sA 7 cX0_countData RX0 (.code yX0_countData cX0_countData 7 (some .int) :: xG) 0 0) (hi : meth.name = yX0_countData.name) (hroom : 1 + 2 ≤ R.frames ∧ 60 * (1 + 2) ≤ R.locals) {rr : Int32 × xM} (hE : xEnd l D cA sA cX0_countData 7 (some .int) R 0 0 (some (.inl rr.1)) rr.2 p e S0 m ag below meth c0 A0 M0 ad0 Z) (fu : Nat) : ∀ (n : Nat) (s : Nat) (x1 : Int32) (x2 : Int32) (x3 : Int32) (x4 : Int32) (x5 : Int32) (M : xM), L_X0_countData_6 fu n s x1 x2 x3 x4 x5 M = some rr → xWx p l e R S0 m ag below meth c0 D cA A0 sA M0 ad0 7 Z 0 0 6 0 0 [(0, .inr (.inr (0, some s))), (1, .inl x1), (2, .inl x2), (3, .inl x3), (4, .inl x4), (5, .inl x5)] [] M := by
  intro n
  induction n with
  | zero => intro s x1 x2 x3 x4 x5 M h; cases h
  | succ n ih =>
    intro s x1 x2 x3 x4 x5 M h
    rw [← q_X0_countData_6 fu n s x1 x2 x3 x4 x5 M] at h
    have hT : ∀ w ∈ xG, w ∈ (Cond.code yX0_countData cX0_countData 7 (some .int) :: xG) := fun w hw => List.mem_cons_of_mem _ hw
    refine xrun_sound (nst := 0) (isInit := false) (kd := kdX0) X (xcls_mono hT xclsG) (xpool_mono hT plX0) (fun z => by cases z) (fun idx v hf => xkoE_mono hT (koX0_ok _ (xfind_mem hf))) (xents (ca := _) ?_) (endI hE).1 (endI hE).2 (xcuts (cu := _) ?_) pr_X0_countData.1 pr_X0_countData.2 _ _ _ _ _ _ _ _ (xat_ok pr_X0_countData.1 pr_X0_countData.2).1 (xat_ok pr_X0_countData.1 pr_X0_countData.2).2.1 (xat_ok pr_X0_countData.1 pr_X0_countData.2).2.2 h
    · exact (fun _ h => nomatch h)
    · refine (List.forall_mem_cons.mpr ⟨?_, (fun _ h => nomatch h)⟩)
      · intro bc bs ls st M h
        replace h := xz_some h
        obtain ⟨rfl, rfl, h⟩ := h
        replace h := lR_some h
        obtain ⟨o, e0, h⟩ := h
        replace h := bd_some h
        obtain ⟨s', rfl, h⟩ := h
        replace h := lI_some h
        obtain ⟨x1', e1, h⟩ := h
        replace h := lI_some h
        obtain ⟨x2', e2, h⟩ := h
        replace h := lI_some h
        obtain ⟨x3', e3, h⟩ := h
        replace h := lI_some h
        obtain ⟨x4', e4, h⟩ := h
        replace h := lI_some h
        obtain ⟨x5', e5, h⟩ := h
        replace h := pI_some h
        obtain ⟨y0', st, rfl, h⟩ := h
        replace h := xe_some h
        obtain ⟨rfl, h⟩ := h
        exact xWx_ls (wx_X0_countData_53 X hi hroom hE fu _ ih s' x1' x2' x3' x4' x5' y0' M h) (List.forall_mem_cons.mpr ⟨e0, (List.forall_mem_cons.mpr ⟨e1, (List.forall_mem_cons.mpr ⟨e2, (List.forall_mem_cons.mpr ⟨e3, (List.forall_mem_cons.mpr ⟨e4, (List.forall_mem_cons.mpr ⟨e5, (fun _ h => nomatch h)⟩)⟩)⟩)⟩)⟩)⟩)

set_option maxRecDepth 100000 in
theorem wx_X0_countData (X : xCtx p R S0 m ag c0 D cA A0 sA 7 cX0_countData RX0 (.code yX0_countData cX0_countData 7 (some .int) :: xG) 0 0) (hi : meth.name = yX0_countData.name) (hroom : 1 + 2 ≤ R.frames ∧ 60 * (1 + 2) ≤ R.locals) {rr : Int32 × xM} (hE : xEnd l D cA sA cX0_countData 7 (some .int) R 0 0 (some (.inl rr.1)) rr.2 p e S0 m ag below meth c0 A0 M0 ad0 Z) (fu : Nat) (s : Nat) (x1 : Int32) (x2 : Int32) (x3 : Int32) (M : xM) (h : F_X0_countData fu s x1 x2 x3 M = some rr) : xWx p l e R S0 m ag below meth c0 D cA A0 sA M0 ad0 7 Z 0 0 0 0 0 [(0, .inr (.inr (0, some s))), (1, .inl x1), (2, .inl x2), (3, .inl x3)] [] M := by
  rw [← q_X0_countData fu s x1 x2 x3 M] at h
  have hT : ∀ w ∈ xG, w ∈ (Cond.code yX0_countData cX0_countData 7 (some .int) :: xG) := fun w hw => List.mem_cons_of_mem _ hw
  refine xrun_sound (nst := 0) (isInit := false) (kd := kdX0) X (xcls_mono hT xclsG) (xpool_mono hT plX0) (fun z => by cases z) (fun idx v hf => xkoE_mono hT (koX0_ok _ (xfind_mem hf))) (xents (ca := _) ?_) (endI hE).1 (endI hE).2 (xcuts (cu := _) ?_) pr_X0_countData.1 pr_X0_countData.2 _ _ _ _ _ _ _ _ (xat_ok pr_X0_countData.1 pr_X0_countData.2).1 (xat_ok pr_X0_countData.1 pr_X0_countData.2).2.1 (xat_ok pr_X0_countData.1 pr_X0_countData.2).2.2 h
  · exact (fun _ h => nomatch h)
  · refine (List.forall_mem_cons.mpr ⟨?_, (fun _ h => nomatch h)⟩)
    · intro bc bs ls st M h
      replace h := xz_some h
      obtain ⟨rfl, rfl, h⟩ := h
      replace h := lR_some h
      obtain ⟨o, e0, h⟩ := h
      replace h := bd_some h
      obtain ⟨s', rfl, h⟩ := h
      replace h := lI_some h
      obtain ⟨x1', e1, h⟩ := h
      replace h := lI_some h
      obtain ⟨x2', e2, h⟩ := h
      replace h := lI_some h
      obtain ⟨x3', e3, h⟩ := h
      replace h := lI_some h
      obtain ⟨x4', e4, h⟩ := h
      replace h := lI_some h
      obtain ⟨x5', e5, h⟩ := h
      replace h := xe_some h
      obtain ⟨rfl, h⟩ := h
      exact xWx_ls (wx_X0_countData_6 X hi hroom hE fu fu s' x1' x2' x3' x4' x5' M h) (List.forall_mem_cons.mpr ⟨e0, (List.forall_mem_cons.mpr ⟨e1, (List.forall_mem_cons.mpr ⟨e2, (List.forall_mem_cons.mpr ⟨e3, (List.forall_mem_cons.mpr ⟨e4, (List.forall_mem_cons.mpr ⟨e5, (fun _ h => nomatch h)⟩)⟩)⟩)⟩)⟩)⟩)

theorem ok_X0_countData (l : Launch) (D : va_G) (cA : Nat → ClassId) (sA : Nat → Nat) (fu : Nat) (s : Nat) (x1 : Int32) (x2 : Int32) (x3 : Int32) (M : xM) {rr : Int32 × xM} (h : F_X0_countData fu s x1 x2 x3 M = some rr) : xMet l D cA sA yX0_countData cX0_countData 7 (some .int) xG (1 + 1) 0 0 [.inr (.inr (0, some s)), .inl x1, .inl x2, .inl x3] M (some (.inl rr.1)) rr.2 :=
  xmet_of (by decide +kernel) (Nat.le_of_ble_eq_true rfl) (fun p e s1 m ag below meth c0 A0 ad0 Z X hn hE => wx_X0_countData X hn ⟨Nat.le_refl _, Nat.le_refl _⟩ hE fu s x1 x2 x3 M h)
theorem hw_X0_countData (l : Launch) (D : va_G) (cA : Nat → ClassId) (sA : Nat → Nat) (fu : Nat) {ρ : Type} {r0 : ρ} (kd1 : Nat) : ∀ (as : List xV) (M : xM) (k : Option xV → xM → Option ρ), w_X0_countData fu as M k = some r0 → ∃ v M', xMet l D cA sA yX0_countData cX0_countData 7 (some .int) xG (1 + 1) 0 0 as M v M' ∧ k v M' = some r0 ∧ (kd1 ≠ 2 → ∃ a as', as = .inr (.inr (0, some a)) :: as') := by
  intro as M k h
  unfold w_X0_countData at h
  replace h := pR_some h
  obtain ⟨o, as1, rfl, h⟩ := h
  replace h := bd_some h
  obtain ⟨s, rfl, h⟩ := h
  replace h := pI_some h
  obtain ⟨x1, as1, rfl, h⟩ := h
  replace h := pI_some h
  obtain ⟨x2, as1, rfl, h⟩ := h
  replace h := pI_some h
  obtain ⟨x3, as1, rfl, h⟩ := h
  replace h := xe_some h
  obtain ⟨rfl, h⟩ := h
  obtain ⟨p1, hp, h⟩ := Option.bind_eq_some_iff.mp h
  exact ⟨_, _, ok_X0_countData l D cA sA fu s x1 x2 x3 M hp, h, fun _ => ⟨_, _, rfl⟩⟩
theorem cd_X0_erase : Cond.code yX0_erase cX0_erase 3 none ∈ xG := (xg 1072 (by decide +kernel) (by decide +kernel))
theorem pr_X0_erase : (∀ e ∈ pX0_erase, xrow cX0_erase 3 kdX0 flX0 0 false RX0 e) ∧ xnext pX0_erase = true := xrows (by decide +kernel)
set_option maxRecDepth 100000 in
theorem wx_X0_erase_37 (X : xCtx p R S0 m ag c0 D cA A0 sA 3 cX0_erase RX0 (.code yX0_erase cX0_erase 3 none :: xG) 0 0) (hi : meth.name = yX0_erase.name) (hroom : 1 + 2 ≤ R.frames ∧ 60 * (1 + 2) ≤ R.locals) {rr : xM} (hE : xEnd l D cA sA cX0_erase 3 none R 0 0 none rr p e S0 m ag below meth c0 A0 M0 ad0 Z) (fu : Nat) : ∀ (n : Nat) (s : Nat) (x1 : Int32) (x2 : Int32) (M : xM), L_X0_erase_37 fu n s x1 x2 M = some rr → xWx p l e R S0 m ag below meth c0 D cA A0 sA M0 ad0 3 Z 0 0 37 0 0 [(0, .inr (.inr (0, some s))), (1, .inl x1), (2, .inl x2)] [] M := by
  intro n
  induction n with
  | zero => intro s x1 x2 M h; cases h
  | succ n ih =>
    intro s x1 x2 M h
    rw [← q_X0_erase_37 fu n s x1 x2 M] at h
    have hT : ∀ w ∈ xG, w ∈ (Cond.code yX0_erase cX0_erase 3 none :: xG) := fun w hw => List.mem_cons_of_mem _ hw
    refine xrun_sound (nst := 0) (isInit := false) (kd := kdX0) X (xcls_mono hT xclsG) (xpool_mono hT plX0) (fun z => by cases z) (fun idx v hf => xkoE_mono hT (koX0_ok _ (xfind_mem hf))) (xents (ca := _) ?_) (endV hE).1 (endV hE).2 (xcuts (cu := _) ?_) pr_X0_erase.1 pr_X0_erase.2 _ _ _ _ _ _ _ _ (xat_ok pr_X0_erase.1 pr_X0_erase.2).1 (xat_ok pr_X0_erase.1 pr_X0_erase.2).2.1 (xat_ok pr_X0_erase.1 pr_X0_erase.2).2.2 h
    · exact (List.forall_mem_cons.mpr ⟨(xent_met X (ci := 0) hT cd_X0_fill lk_X0_76 rfl (by decide) rfl (by decide +kernel) (fun z => absurd z (by decide)) (hw_X0_fill l D cA sA fu 0) (fun _ => ⟨by decide, fun _ => ⟨TX0, 16, rfl⟩⟩) (by constructor <;> omega) (by decide)), (fun _ h => nomatch h)⟩)
    · refine (List.forall_mem_cons.mpr ⟨?_, (fun _ h => nomatch h)⟩)
      · intro bc bs ls st M h
        replace h := xz_some h
        obtain ⟨rfl, rfl, h⟩ := h
        replace h := lR_some h
        obtain ⟨o, e0, h⟩ := h
        replace h := bd_some h
        obtain ⟨s', rfl, h⟩ := h
        replace h := lI_some h
        obtain ⟨x1', e1, h⟩ := h
        replace h := lI_some h
        obtain ⟨x2', e2, h⟩ := h
        replace h := xe_some h
        obtain ⟨rfl, h⟩ := h
        exact xWx_ls (ih s' x1' x2' M h) (List.forall_mem_cons.mpr ⟨e0, (List.forall_mem_cons.mpr ⟨e1, (List.forall_mem_cons.mpr ⟨e2, (fun _ h => nomatch h)⟩)⟩)⟩)

set_option maxRecDepth 100000 in
theorem wx_X0_erase (X : xCtx p R S0 m ag c0 D cA A0 sA 3 cX0_erase RX0 (.code yX0_erase cX0_erase 3 none :: xG) 0 0) (hi : meth.name = yX0_erase.name) (hroom : 1 + 2 ≤ R.frames ∧ 60 * (1 + 2) ≤ R.locals) {rr : xM} (hE : xEnd l D cA sA cX0_erase 3 none R 0 0 none rr p e S0 m ag below meth c0 A0 M0 ad0 Z) (fu : Nat) (s : Nat) (x1 : Int32) (M : xM) (h : F_X0_erase fu s x1 M = some rr) : xWx p l e R S0 m ag below meth c0 D cA A0 sA M0 ad0 3 Z 0 0 0 0 0 [(0, .inr (.inr (0, some s))), (1, .inl x1)] [] M := by
  rw [← q_X0_erase fu s x1 M] at h
  have hT : ∀ w ∈ xG, w ∈ (Cond.code yX0_erase cX0_erase 3 none :: xG) := fun w hw => List.mem_cons_of_mem _ hw
  refine xrun_sound (nst := 0) (isInit := false) (kd := kdX0) X (xcls_mono hT xclsG) (xpool_mono hT plX0) (fun z => by cases z) (fun idx v hf => xkoE_mono hT (koX0_ok _ (xfind_mem hf))) (xents (ca := _) ?_) (endV hE).1 (endV hE).2 (xcuts (cu := _) ?_) pr_X0_erase.1 pr_X0_erase.2 _ _ _ _ _ _ _ _ (xat_ok pr_X0_erase.1 pr_X0_erase.2).1 (xat_ok pr_X0_erase.1 pr_X0_erase.2).2.1 (xat_ok pr_X0_erase.1 pr_X0_erase.2).2.2 h
  · exact (fun _ h => nomatch h)
  · refine (List.forall_mem_cons.mpr ⟨?_, (fun _ h => nomatch h)⟩)
    · intro bc bs ls st M h
      replace h := xz_some h
      obtain ⟨rfl, rfl, h⟩ := h
      replace h := lR_some h
      obtain ⟨o, e0, h⟩ := h
      replace h := bd_some h
      obtain ⟨s', rfl, h⟩ := h
      replace h := lI_some h
      obtain ⟨x1', e1, h⟩ := h
      replace h := lI_some h
      obtain ⟨x2', e2, h⟩ := h
      replace h := xe_some h
      obtain ⟨rfl, h⟩ := h
      exact xWx_ls (wx_X0_erase_37 X hi hroom hE fu fu s' x1' x2' M h) (List.forall_mem_cons.mpr ⟨e0, (List.forall_mem_cons.mpr ⟨e1, (List.forall_mem_cons.mpr ⟨e2, (fun _ h => nomatch h)⟩)⟩)⟩)

theorem ok_X0_erase (l : Launch) (D : va_G) (cA : Nat → ClassId) (sA : Nat → Nat) (fu : Nat) (s : Nat) (x1 : Int32) (M : xM) {rr : xM} (h : F_X0_erase fu s x1 M = some rr) : xMet l D cA sA yX0_erase cX0_erase 3 none xG (1 + 1) 0 0 [.inr (.inr (0, some s)), .inl x1] M none rr :=
  xmet_of (by decide +kernel) (Nat.le_of_ble_eq_true rfl) (fun p e s1 m ag below meth c0 A0 ad0 Z X hn hE => wx_X0_erase X hn ⟨Nat.le_refl _, Nat.le_refl _⟩ hE fu s x1 M h)
theorem hw_X0_erase (l : Launch) (D : va_G) (cA : Nat → ClassId) (sA : Nat → Nat) (fu : Nat) {ρ : Type} {r0 : ρ} (kd1 : Nat) : ∀ (as : List xV) (M : xM) (k : Option xV → xM → Option ρ), w_X0_erase fu as M k = some r0 → ∃ v M', xMet l D cA sA yX0_erase cX0_erase 3 none xG (1 + 1) 0 0 as M v M' ∧ k v M' = some r0 ∧ (kd1 ≠ 2 → ∃ a as', as = .inr (.inr (0, some a)) :: as') := by
  intro as M k h
  unfold w_X0_erase at h
  replace h := pR_some h
  obtain ⟨o, as1, rfl, h⟩ := h
  replace h := bd_some h
  obtain ⟨s, rfl, h⟩ := h
  replace h := pI_some h
  obtain ⟨x1, as1, rfl, h⟩ := h
  replace h := xe_some h
  obtain ⟨rfl, h⟩ := h
  obtain ⟨p1, hp, h⟩ := Option.bind_eq_some_iff.mp h
  exact ⟨_, _, ok_X0_erase l D cA sA fu s x1 M hp, h, fun _ => ⟨_, _, rfl⟩⟩
theorem cd_X0_firstErased : Cond.code yX0_firstErased cX0_firstErased 3 (some .int) ∈ xG := (xg 1034 (by decide +kernel) (by decide +kernel))
theorem pr_X0_firstErased : (∀ e ∈ pX0_firstErased, xrow cX0_firstErased 3 kdX0 flX0 0 false RX0 e) ∧ xnext pX0_firstErased = true := xrows (by decide +kernel)
set_option maxRecDepth 100000 in
theorem wx_X0_firstErased_7 (X : xCtx p R S0 m ag c0 D cA A0 sA 3 cX0_firstErased RX0 (.code yX0_firstErased cX0_firstErased 3 (some .int) :: xG) 0 0) (hi : meth.name = yX0_firstErased.name) (hroom : 0 + 2 ≤ R.frames ∧ 60 * (0 + 2) ≤ R.locals) {rr : Int32 × xM} (hE : xEnd l D cA sA cX0_firstErased 3 (some .int) R 0 0 (some (.inl rr.1)) rr.2 p e S0 m ag below meth c0 A0 M0 ad0 Z) (fu : Nat) : ∀ (n : Nat) (s : Nat) (x1 : Int32) (x2 : Int32) (M : xM), L_X0_firstErased_7 fu n s x1 x2 M = some rr → xWx p l e R S0 m ag below meth c0 D cA A0 sA M0 ad0 3 Z 0 0 7 0 0 [(0, .inr (.inr (0, some s))), (1, .inl x1), (2, .inl x2)] [] M := by
  intro n
  induction n with
  | zero => intro s x1 x2 M h; cases h
  | succ n ih =>
    intro s x1 x2 M h
    rw [← q_X0_firstErased_7 fu n s x1 x2 M] at h
    have hT : ∀ w ∈ xG, w ∈ (Cond.code yX0_firstErased cX0_firstErased 3 (some .int) :: xG) := fun w hw => List.mem_cons_of_mem _ hw
    refine xrun_sound (nst := 0) (isInit := false) (kd := kdX0) X (xcls_mono hT xclsG) (xpool_mono hT plX0) (fun z => by cases z) (fun idx v hf => xkoE_mono hT (koX0_ok _ (xfind_mem hf))) (xents (ca := _) ?_) (endI hE).1 (endI hE).2 (xcuts (cu := _) ?_) pr_X0_firstErased.1 pr_X0_firstErased.2 _ _ _ _ _ _ _ _ (xat_ok pr_X0_firstErased.1 pr_X0_firstErased.2).1 (xat_ok pr_X0_firstErased.1 pr_X0_firstErased.2).2.1 (xat_ok pr_X0_firstErased.1 pr_X0_firstErased.2).2.2 h
    · exact (fun _ h => nomatch h)
    · refine (List.forall_mem_cons.mpr ⟨?_, (fun _ h => nomatch h)⟩)
      · intro bc bs ls st M h
        replace h := xz_some h
        obtain ⟨rfl, rfl, h⟩ := h
        replace h := lR_some h
        obtain ⟨o, e0, h⟩ := h
        replace h := bd_some h
        obtain ⟨s', rfl, h⟩ := h
        replace h := lI_some h
        obtain ⟨x1', e1, h⟩ := h
        replace h := lI_some h
        obtain ⟨x2', e2, h⟩ := h
        replace h := xe_some h
        obtain ⟨rfl, h⟩ := h
        exact xWx_ls (ih s' x1' x2' M h) (List.forall_mem_cons.mpr ⟨e0, (List.forall_mem_cons.mpr ⟨e1, (List.forall_mem_cons.mpr ⟨e2, (fun _ h => nomatch h)⟩)⟩)⟩)

set_option maxRecDepth 100000 in
theorem wx_X0_firstErased (X : xCtx p R S0 m ag c0 D cA A0 sA 3 cX0_firstErased RX0 (.code yX0_firstErased cX0_firstErased 3 (some .int) :: xG) 0 0) (hi : meth.name = yX0_firstErased.name) (hroom : 0 + 2 ≤ R.frames ∧ 60 * (0 + 2) ≤ R.locals) {rr : Int32 × xM} (hE : xEnd l D cA sA cX0_firstErased 3 (some .int) R 0 0 (some (.inl rr.1)) rr.2 p e S0 m ag below meth c0 A0 M0 ad0 Z) (fu : Nat) (s : Nat) (x1 : Int32) (M : xM) (h : F_X0_firstErased fu s x1 M = some rr) : xWx p l e R S0 m ag below meth c0 D cA A0 sA M0 ad0 3 Z 0 0 0 0 0 [(0, .inr (.inr (0, some s))), (1, .inl x1)] [] M := by
  rw [← q_X0_firstErased fu s x1 M] at h
  have hT : ∀ w ∈ xG, w ∈ (Cond.code yX0_firstErased cX0_firstErased 3 (some .int) :: xG) := fun w hw => List.mem_cons_of_mem _ hw
  refine xrun_sound (nst := 0) (isInit := false) (kd := kdX0) X (xcls_mono hT xclsG) (xpool_mono hT plX0) (fun z => by cases z) (fun idx v hf => xkoE_mono hT (koX0_ok _ (xfind_mem hf))) (xents (ca := _) ?_) (endI hE).1 (endI hE).2 (xcuts (cu := _) ?_) pr_X0_firstErased.1 pr_X0_firstErased.2 _ _ _ _ _ _ _ _ (xat_ok pr_X0_firstErased.1 pr_X0_firstErased.2).1 (xat_ok pr_X0_firstErased.1 pr_X0_firstErased.2).2.1 (xat_ok pr_X0_firstErased.1 pr_X0_firstErased.2).2.2 h
  · exact (fun _ h => nomatch h)
  · refine (List.forall_mem_cons.mpr ⟨?_, (fun _ h => nomatch h)⟩)
    · intro bc bs ls st M h
      replace h := xz_some h
      obtain ⟨rfl, rfl, h⟩ := h
      replace h := lR_some h
      obtain ⟨o, e0, h⟩ := h
      replace h := bd_some h
      obtain ⟨s', rfl, h⟩ := h
      replace h := lI_some h
      obtain ⟨x1', e1, h⟩ := h
      replace h := lI_some h
      obtain ⟨x2', e2, h⟩ := h
      replace h := xe_some h
      obtain ⟨rfl, h⟩ := h
      exact xWx_ls (wx_X0_firstErased_7 X hi hroom hE fu fu s' x1' x2' M h) (List.forall_mem_cons.mpr ⟨e0, (List.forall_mem_cons.mpr ⟨e1, (List.forall_mem_cons.mpr ⟨e2, (fun _ h => nomatch h)⟩)⟩)⟩)

theorem ok_X0_firstErased (l : Launch) (D : va_G) (cA : Nat → ClassId) (sA : Nat → Nat) (fu : Nat) (s : Nat) (x1 : Int32) (M : xM) {rr : Int32 × xM} (h : F_X0_firstErased fu s x1 M = some rr) : xMet l D cA sA yX0_firstErased cX0_firstErased 3 (some .int) xG (0 + 1) 0 0 [.inr (.inr (0, some s)), .inl x1] M (some (.inl rr.1)) rr.2 :=
  xmet_of (by decide +kernel) (Nat.le_of_ble_eq_true rfl) (fun p e s1 m ag below meth c0 A0 ad0 Z X hn hE => wx_X0_firstErased X hn ⟨Nat.le_refl _, Nat.le_refl _⟩ hE fu s x1 M h)
theorem hw_X0_firstErased (l : Launch) (D : va_G) (cA : Nat → ClassId) (sA : Nat → Nat) (fu : Nat) {ρ : Type} {r0 : ρ} (kd1 : Nat) : ∀ (as : List xV) (M : xM) (k : Option xV → xM → Option ρ), w_X0_firstErased fu as M k = some r0 → ∃ v M', xMet l D cA sA yX0_firstErased cX0_firstErased 3 (some .int) xG (0 + 1) 0 0 as M v M' ∧ k v M' = some r0 ∧ (kd1 ≠ 2 → ∃ a as', as = .inr (.inr (0, some a)) :: as') := by
  intro as M k h
  unfold w_X0_firstErased at h
  replace h := pR_some h
  obtain ⟨o, as1, rfl, h⟩ := h
  replace h := bd_some h
  obtain ⟨s, rfl, h⟩ := h
  replace h := pI_some h
  obtain ⟨x1, as1, rfl, h⟩ := h
  replace h := xe_some h
  obtain ⟨rfl, h⟩ := h
  obtain ⟨p1, hp, h⟩ := Option.bind_eq_some_iff.mp h
  exact ⟨_, _, ok_X0_firstErased l D cA sA fu s x1 M hp, h, fun _ => ⟨_, _, rfl⟩⟩
theorem cd_X0_freshBlock : Cond.code yX0_freshBlock cX0_freshBlock 4 (some .int) ∈ xG := (xg 1030 (by decide +kernel) (by decide +kernel))
theorem pr_X0_freshBlock : (∀ e ∈ pX0_freshBlock, xrow cX0_freshBlock 4 kdX0 flX0 0 false RX0 e) ∧ xnext pX0_freshBlock = true := xrows (by decide +kernel)
set_option maxRecDepth 100000 in
theorem wx_X0_freshBlock_37 (X : xCtx p R S0 m ag c0 D cA A0 sA 4 cX0_freshBlock RX0 (.code yX0_freshBlock cX0_freshBlock 4 (some .int) :: xG) 0 0) (hi : meth.name = yX0_freshBlock.name) (hroom : 0 + 2 ≤ R.frames ∧ 60 * (0 + 2) ≤ R.locals) {rr : Int32 × xM} (hE : xEnd l D cA sA cX0_freshBlock 4 (some .int) R 0 0 (some (.inl rr.1)) rr.2 p e S0 m ag below meth c0 A0 M0 ad0 Z) (fu : Nat) (k4 : Nat → Int32 → Int32 → xM → Option (Int32 × xM)) (hk4 : ∀ (s : Nat) (x1 : Int32) (x2 : Int32) (M : xM), k4 s x1 x2 M = some rr → xWx p l e R S0 m ag below meth c0 D cA A0 sA M0 ad0 4 Z 0 0 4 0 0 [(0, .inr (.inr (0, some s))), (1, .inl x1), (2, .inl x2)] [] M) (s : Nat) (x1 : Int32) (x2 : Int32) (y0 : Int32) (M : xM) (h : J_X0_freshBlock_37 fu k4 s x1 x2 y0 M = some rr) : xWx p l e R S0 m ag below meth c0 D cA A0 sA M0 ad0 4 Z 0 0 37 0 0 [(0, .inr (.inr (0, some s))), (1, .inl x1), (2, .inl x2)] [.inl y0] M := by
  rw [← q_X0_freshBlock_37 fu k4 s x1 x2 y0 M] at h
  have hT : ∀ w ∈ xG, w ∈ (Cond.code yX0_freshBlock cX0_freshBlock 4 (some .int) :: xG) := fun w hw => List.mem_cons_of_mem _ hw
  refine xrun_sound (nst := 0) (isInit := false) (kd := kdX0) X (xcls_mono hT xclsG) (xpool_mono hT plX0) (fun z => by cases z) (fun idx v hf => xkoE_mono hT (koX0_ok _ (xfind_mem hf))) (xents (ca := _) ?_) (endI hE).1 (endI hE).2 (xcuts (cu := _) ?_) pr_X0_freshBlock.1 pr_X0_freshBlock.2 _ _ _ _ _ _ _ _ (xat_ok pr_X0_freshBlock.1 pr_X0_freshBlock.2).1 (xat_ok pr_X0_freshBlock.1 pr_X0_freshBlock.2).2.1 (xat_ok pr_X0_freshBlock.1 pr_X0_freshBlock.2).2.2 h
  · exact (fun _ h => nomatch h)
  · refine (List.forall_mem_cons.mpr ⟨?_, (fun _ h => nomatch h)⟩)
    · intro bc bs ls st M h
      replace h := xz_some h
      obtain ⟨rfl, rfl, h⟩ := h
      replace h := lR_some h
      obtain ⟨o, e0, h⟩ := h
      replace h := bd_some h
      obtain ⟨s', rfl, h⟩ := h
      replace h := lI_some h
      obtain ⟨x1', e1, h⟩ := h
      replace h := lI_some h
      obtain ⟨x2', e2, h⟩ := h
      replace h := xe_some h
      obtain ⟨rfl, h⟩ := h
      exact xWx_ls (hk4 s' x1' x2' M h) (List.forall_mem_cons.mpr ⟨e0, (List.forall_mem_cons.mpr ⟨e1, (List.forall_mem_cons.mpr ⟨e2, (fun _ h => nomatch h)⟩)⟩)⟩)

set_option maxRecDepth 100000 in
theorem wx_X0_freshBlock_4 (X : xCtx p R S0 m ag c0 D cA A0 sA 4 cX0_freshBlock RX0 (.code yX0_freshBlock cX0_freshBlock 4 (some .int) :: xG) 0 0) (hi : meth.name = yX0_freshBlock.name) (hroom : 0 + 2 ≤ R.frames ∧ 60 * (0 + 2) ≤ R.locals) {rr : Int32 × xM} (hE : xEnd l D cA sA cX0_freshBlock 4 (some .int) R 0 0 (some (.inl rr.1)) rr.2 p e S0 m ag below meth c0 A0 M0 ad0 Z) (fu : Nat) : ∀ (n : Nat) (s : Nat) (x1 : Int32) (x2 : Int32) (M : xM), L_X0_freshBlock_4 fu n s x1 x2 M = some rr → xWx p l e R S0 m ag below meth c0 D cA A0 sA M0 ad0 4 Z 0 0 4 0 0 [(0, .inr (.inr (0, some s))), (1, .inl x1), (2, .inl x2)] [] M := by
  intro n
  induction n with
  | zero => intro s x1 x2 M h; cases h
  | succ n ih =>
    intro s x1 x2 M h
    rw [← q_X0_freshBlock_4 fu n s x1 x2 M] at h
    have hT : ∀ w ∈ xG, w ∈ (Cond.code yX0_freshBlock cX0_freshBlock 4 (some .int) :: xG) := fun w hw => List.mem_cons_of_mem _ hw
    refine xrun_sound (nst := 0) (isInit := false) (kd := kdX0) X (xcls_mono hT xclsG) (xpool_mono hT plX0) (fun z => by cases z) (fun idx v hf => xkoE_mono hT (koX0_ok _ (xfind_mem hf))) (xents (ca := _) ?_) (endI hE).1 (endI hE).2 (xcuts (cu := _) ?_) pr_X0_freshBlock.1 pr_X0_freshBlock.2 _ _ _ _ _ _ _ _ (xat_ok pr_X0_freshBlock.1 pr_X0_freshBlock.2).1 (xat_ok pr_X0_freshBlock.1 pr_X0_freshBlock.2).2.1 (xat_ok pr_X0_freshBlock.1 pr_X0_freshBlock.2).2.2 h
    · exact (fun _ h => nomatch h)
    · refine (List.forall_mem_cons.mpr ⟨?_, (fun _ h => nomatch h)⟩)
      · intro bc bs ls st M h
        replace h := xz_some h
        obtain ⟨rfl, rfl, h⟩ := h
        replace h := lR_some h
        obtain ⟨o, e0, h⟩ := h
        replace h := bd_some h
        obtain ⟨s', rfl, h⟩ := h
        replace h := lI_some h
        obtain ⟨x1', e1, h⟩ := h
        replace h := lI_some h
        obtain ⟨x2', e2, h⟩ := h
        replace h := pI_some h
        obtain ⟨y0', st, rfl, h⟩ := h
        replace h := xe_some h
        obtain ⟨rfl, h⟩ := h
        exact xWx_ls (wx_X0_freshBlock_37 X hi hroom hE fu _ ih s' x1' x2' y0' M h) (List.forall_mem_cons.mpr ⟨e0, (List.forall_mem_cons.mpr ⟨e1, (List.forall_mem_cons.mpr ⟨e2, (fun _ h => nomatch h)⟩)⟩)⟩)

set_option maxRecDepth 100000 in
theorem wx_X0_freshBlock (X : xCtx p R S0 m ag c0 D cA A0 sA 4 cX0_freshBlock RX0 (.code yX0_freshBlock cX0_freshBlock 4 (some .int) :: xG) 0 0) (hi : meth.name = yX0_freshBlock.name) (hroom : 0 + 2 ≤ R.frames ∧ 60 * (0 + 2) ≤ R.locals) {rr : Int32 × xM} (hE : xEnd l D cA sA cX0_freshBlock 4 (some .int) R 0 0 (some (.inl rr.1)) rr.2 p e S0 m ag below meth c0 A0 M0 ad0 Z) (fu : Nat) (s : Nat) (M : xM) (h : F_X0_freshBlock fu s M = some rr) : xWx p l e R S0 m ag below meth c0 D cA A0 sA M0 ad0 4 Z 0 0 0 0 0 [(0, .inr (.inr (0, some s)))] [] M := by
  rw [← q_X0_freshBlock fu s M] at h
  have hT : ∀ w ∈ xG, w ∈ (Cond.code yX0_freshBlock cX0_freshBlock 4 (some .int) :: xG) := fun w hw => List.mem_cons_of_mem _ hw
  refine xrun_sound (nst := 0) (isInit := false) (kd := kdX0) X (xcls_mono hT xclsG) (xpool_mono hT plX0) (fun z => by cases z) (fun idx v hf => xkoE_mono hT (koX0_ok _ (xfind_mem hf))) (xents (ca := _) ?_) (endI hE).1 (endI hE).2 (xcuts (cu := _) ?_) pr_X0_freshBlock.1 pr_X0_freshBlock.2 _ _ _ _ _ _ _ _ (xat_ok pr_X0_freshBlock.1 pr_X0_freshBlock.2).1 (xat_ok pr_X0_freshBlock.1 pr_X0_freshBlock.2).2.1 (xat_ok pr_X0_freshBlock.1 pr_X0_freshBlock.2).2.2 h
  · exact (fun _ h => nomatch h)
  · refine (List.forall_mem_cons.mpr ⟨?_, (fun _ h => nomatch h)⟩)
    · intro bc bs ls st M h
      replace h := xz_some h
      obtain ⟨rfl, rfl, h⟩ := h
      replace h := lR_some h
      obtain ⟨o, e0, h⟩ := h
      replace h := bd_some h
      obtain ⟨s', rfl, h⟩ := h
      replace h := lI_some h
      obtain ⟨x1', e1, h⟩ := h
      replace h := lI_some h
      obtain ⟨x2', e2, h⟩ := h
      replace h := xe_some h
      obtain ⟨rfl, h⟩ := h
      exact xWx_ls (wx_X0_freshBlock_4 X hi hroom hE fu fu s' x1' x2' M h) (List.forall_mem_cons.mpr ⟨e0, (List.forall_mem_cons.mpr ⟨e1, (List.forall_mem_cons.mpr ⟨e2, (fun _ h => nomatch h)⟩)⟩)⟩)

theorem ok_X0_freshBlock (l : Launch) (D : va_G) (cA : Nat → ClassId) (sA : Nat → Nat) (fu : Nat) (s : Nat) (M : xM) {rr : Int32 × xM} (h : F_X0_freshBlock fu s M = some rr) : xMet l D cA sA yX0_freshBlock cX0_freshBlock 4 (some .int) xG (0 + 1) 0 0 [.inr (.inr (0, some s))] M (some (.inl rr.1)) rr.2 :=
  xmet_of (by decide +kernel) (Nat.le_of_ble_eq_true rfl) (fun p e s1 m ag below meth c0 A0 ad0 Z X hn hE => wx_X0_freshBlock X hn ⟨Nat.le_refl _, Nat.le_refl _⟩ hE fu s M h)
theorem hw_X0_freshBlock (l : Launch) (D : va_G) (cA : Nat → ClassId) (sA : Nat → Nat) (fu : Nat) {ρ : Type} {r0 : ρ} (kd1 : Nat) : ∀ (as : List xV) (M : xM) (k : Option xV → xM → Option ρ), w_X0_freshBlock fu as M k = some r0 → ∃ v M', xMet l D cA sA yX0_freshBlock cX0_freshBlock 4 (some .int) xG (0 + 1) 0 0 as M v M' ∧ k v M' = some r0 ∧ (kd1 ≠ 2 → ∃ a as', as = .inr (.inr (0, some a)) :: as') := by
  intro as M k h
  unfold w_X0_freshBlock at h
  replace h := pR_some h
  obtain ⟨o, as1, rfl, h⟩ := h
  replace h := bd_some h
  obtain ⟨s, rfl, h⟩ := h
  replace h := xe_some h
  obtain ⟨rfl, h⟩ := h
  obtain ⟨p1, hp, h⟩ := Option.bind_eq_some_iff.mp h
  exact ⟨_, _, ok_X0_freshBlock l D cA sA fu s M hp, h, fun _ => ⟨_, _, rfl⟩⟩
theorem cd_X0_greatestSeq : Cond.code yX0_greatestSeq cX0_greatestSeq 3 (some .int) ∈ xG := (xg 1170 (by decide +kernel) (by decide +kernel))
theorem pr_X0_greatestSeq : (∀ e ∈ pX0_greatestSeq, xrow cX0_greatestSeq 3 kdX0 flX0 0 false RX0 e) ∧ xnext pX0_greatestSeq = true := xrows (by decide +kernel)
set_option maxRecDepth 100000 in
theorem wx_X0_greatestSeq_4 (X : xCtx p R S0 m ag c0 D cA A0 sA 3 cX0_greatestSeq RX0 (.code yX0_greatestSeq cX0_greatestSeq 3 (some .int) :: xG) 0 0) (hi : meth.name = yX0_greatestSeq.name) (hroom : 6 + 2 ≤ R.frames ∧ 60 * (6 + 2) ≤ R.locals) {rr : Int32 × xM} (hE : xEnd l D cA sA cX0_greatestSeq 3 (some .int) R 0 0 (some (.inl rr.1)) rr.2 p e S0 m ag below meth c0 A0 M0 ad0 Z) (fu : Nat) : ∀ (n : Nat) (s : Nat) (x1 : Int32) (x2 : Int32) (M : xM), L_X0_greatestSeq_4 fu n s x1 x2 M = some rr → xWx p l e R S0 m ag below meth c0 D cA A0 sA M0 ad0 3 Z 0 0 4 0 0 [(0, .inr (.inr (0, some s))), (1, .inl x1), (2, .inl x2)] [] M := by
  intro n
  induction n with
  | zero => intro s x1 x2 M h; cases h
  | succ n ih =>
    intro s x1 x2 M h
    rw [← q_X0_greatestSeq_4 fu n s x1 x2 M] at h
    have hT : ∀ w ∈ xG, w ∈ (Cond.code yX0_greatestSeq cX0_greatestSeq 3 (some .int) :: xG) := fun w hw => List.mem_cons_of_mem _ hw
    refine xrun_sound (nst := 0) (isInit := false) (kd := kdX0) X (xcls_mono hT xclsG) (xpool_mono hT plX0) (fun z => by cases z) (fun idx v hf => xkoE_mono hT (koX0_ok _ (xfind_mem hf))) (xents (ca := _) ?_) (endI hE).1 (endI hE).2 (xcuts (cu := _) ?_) pr_X0_greatestSeq.1 pr_X0_greatestSeq.2 _ _ _ _ _ _ _ _ (xat_ok pr_X0_greatestSeq.1 pr_X0_greatestSeq.2).1 (xat_ok pr_X0_greatestSeq.1 pr_X0_greatestSeq.2).2.1 (xat_ok pr_X0_greatestSeq.1 pr_X0_greatestSeq.2).2.2 h
    · exact (List.forall_mem_cons.mpr ⟨(xent_max X hT (xg 428 (by decide +kernel) (by decide +kernel)) (xg 429 (by decide +kernel) (by decide +kernel)) (xg 136 (by decide +kernel) (by decide +kernel)) (xg 430 (by decide +kernel) (by decide +kernel)) rfl), (fun _ h => nomatch h)⟩)
    · refine (List.forall_mem_cons.mpr ⟨?_, (fun _ h => nomatch h)⟩)
      · intro bc bs ls st M h
        replace h := xz_some h
        obtain ⟨rfl, rfl, h⟩ := h
        replace h := lR_some h
        obtain ⟨o, e0, h⟩ := h
        replace h := bd_some h
        obtain ⟨s', rfl, h⟩ := h
        replace h := lI_some h
        obtain ⟨x1', e1, h⟩ := h
        replace h := lI_some h
        obtain ⟨x2', e2, h⟩ := h
        replace h := xe_some h
        obtain ⟨rfl, h⟩ := h
        exact xWx_ls (ih s' x1' x2' M h) (List.forall_mem_cons.mpr ⟨e0, (List.forall_mem_cons.mpr ⟨e1, (List.forall_mem_cons.mpr ⟨e2, (fun _ h => nomatch h)⟩)⟩)⟩)

set_option maxRecDepth 100000 in
theorem wx_X0_greatestSeq (X : xCtx p R S0 m ag c0 D cA A0 sA 3 cX0_greatestSeq RX0 (.code yX0_greatestSeq cX0_greatestSeq 3 (some .int) :: xG) 0 0) (hi : meth.name = yX0_greatestSeq.name) (hroom : 6 + 2 ≤ R.frames ∧ 60 * (6 + 2) ≤ R.locals) {rr : Int32 × xM} (hE : xEnd l D cA sA cX0_greatestSeq 3 (some .int) R 0 0 (some (.inl rr.1)) rr.2 p e S0 m ag below meth c0 A0 M0 ad0 Z) (fu : Nat) (s : Nat) (M : xM) (h : F_X0_greatestSeq fu s M = some rr) : xWx p l e R S0 m ag below meth c0 D cA A0 sA M0 ad0 3 Z 0 0 0 0 0 [(0, .inr (.inr (0, some s)))] [] M := by
  rw [← q_X0_greatestSeq fu s M] at h
  have hT : ∀ w ∈ xG, w ∈ (Cond.code yX0_greatestSeq cX0_greatestSeq 3 (some .int) :: xG) := fun w hw => List.mem_cons_of_mem _ hw
  refine xrun_sound (nst := 0) (isInit := false) (kd := kdX0) X (xcls_mono hT xclsG) (xpool_mono hT plX0) (fun z => by cases z) (fun idx v hf => xkoE_mono hT (koX0_ok _ (xfind_mem hf))) (xents (ca := _) ?_) (endI hE).1 (endI hE).2 (xcuts (cu := _) ?_) pr_X0_greatestSeq.1 pr_X0_greatestSeq.2 _ _ _ _ _ _ _ _ (xat_ok pr_X0_greatestSeq.1 pr_X0_greatestSeq.2).1 (xat_ok pr_X0_greatestSeq.1 pr_X0_greatestSeq.2).2.1 (xat_ok pr_X0_greatestSeq.1 pr_X0_greatestSeq.2).2.2 h
  · exact (fun _ h => nomatch h)
  · refine (List.forall_mem_cons.mpr ⟨?_, (fun _ h => nomatch h)⟩)
    · intro bc bs ls st M h
      replace h := xz_some h
      obtain ⟨rfl, rfl, h⟩ := h
      replace h := lR_some h
      obtain ⟨o, e0, h⟩ := h
      replace h := bd_some h
      obtain ⟨s', rfl, h⟩ := h
      replace h := lI_some h
      obtain ⟨x1', e1, h⟩ := h
      replace h := lI_some h
      obtain ⟨x2', e2, h⟩ := h
      replace h := xe_some h
      obtain ⟨rfl, h⟩ := h
      exact xWx_ls (wx_X0_greatestSeq_4 X hi hroom hE fu fu s' x1' x2' M h) (List.forall_mem_cons.mpr ⟨e0, (List.forall_mem_cons.mpr ⟨e1, (List.forall_mem_cons.mpr ⟨e2, (fun _ h => nomatch h)⟩)⟩)⟩)

theorem ok_X0_greatestSeq (l : Launch) (D : va_G) (cA : Nat → ClassId) (sA : Nat → Nat) (fu : Nat) (s : Nat) (M : xM) {rr : Int32 × xM} (h : F_X0_greatestSeq fu s M = some rr) : xMet l D cA sA yX0_greatestSeq cX0_greatestSeq 3 (some .int) xG (6 + 1) 0 0 [.inr (.inr (0, some s))] M (some (.inl rr.1)) rr.2 :=
  xmet_of (by decide +kernel) (Nat.le_of_ble_eq_true rfl) (fun p e s1 m ag below meth c0 A0 ad0 Z X hn hE => wx_X0_greatestSeq X hn ⟨Nat.le_refl _, Nat.le_refl _⟩ hE fu s M h)
theorem hw_X0_greatestSeq (l : Launch) (D : va_G) (cA : Nat → ClassId) (sA : Nat → Nat) (fu : Nat) {ρ : Type} {r0 : ρ} (kd1 : Nat) : ∀ (as : List xV) (M : xM) (k : Option xV → xM → Option ρ), w_X0_greatestSeq fu as M k = some r0 → ∃ v M', xMet l D cA sA yX0_greatestSeq cX0_greatestSeq 3 (some .int) xG (6 + 1) 0 0 as M v M' ∧ k v M' = some r0 ∧ (kd1 ≠ 2 → ∃ a as', as = .inr (.inr (0, some a)) :: as') := by
  intro as M k h
  unfold w_X0_greatestSeq at h
  replace h := pR_some h
  obtain ⟨o, as1, rfl, h⟩ := h
  replace h := bd_some h
  obtain ⟨s, rfl, h⟩ := h
  replace h := xe_some h
  obtain ⟨rfl, h⟩ := h
  obtain ⟨p1, hp, h⟩ := Option.bind_eq_some_iff.mp h
  exact ⟨_, _, ok_X0_greatestSeq l D cA sA fu s M hp, h, fun _ => ⟨_, _, rfl⟩⟩
theorem cd_X0_init : Cond.code yX0_init cX0_init 1 none ∈ xG := (xg 339 (by decide +kernel) (by decide +kernel))
theorem pr_X0_init : (∀ e ∈ pX0_init, xrow cX0_init 1 kdX0 flX0 0 true RX0 e) ∧ xnext pX0_init = true := xrows (by decide +kernel)
set_option maxRecDepth 100000 in
theorem wx_X0_init (X : xCtx p R S0 m ag c0 D cA A0 sA 1 cX0_init RX0 (.code yX0_init cX0_init 1 none :: xG) 9 480) (hi : meth.name = yX0_init.name) (hroom : 0 + 2 ≤ R.frames ∧ 60 * (0 + 2) ≤ R.locals) {rr : xM} (hE : xEnd l D cA sA cX0_init 1 none R 9 480 none rr p e S0 m ag below meth c0 A0 M0 ad0 Z) (fu : Nat) (s : Nat) (M : xM) (h : F_X0_init fu s M = some rr) : xWx p l e R S0 m ag below meth c0 D cA A0 sA M0 ad0 1 Z 9 480 0 9 480 [(0, .inr (.inr (0, some s)))] [] M := by
  rw [← q_X0_init fu s M] at h
  have hT : ∀ w ∈ xG, w ∈ (Cond.code yX0_init cX0_init 1 none :: xG) := fun w hw => List.mem_cons_of_mem _ hw
  refine xrun_sound (nst := 0) (isInit := true) (kd := kdX0) X (xcls_mono hT xclsG) (xpool_mono hT plX0) (fun _ => hi) (fun idx v hf => xkoE_mono hT (koX0_ok _ (xfind_mem hf))) (xents (ca := _) ?_) (endV hE).1 (endV hE).2 (xcuts (cu := _) ?_) pr_X0_init.1 pr_X0_init.2 _ _ _ _ _ _ _ _ (xat_ok pr_X0_init.1 pr_X0_init.2).1 (xat_ok pr_X0_init.1 pr_X0_init.2).2.1 (xat_ok pr_X0_init.1 pr_X0_init.2).2.2 h
  · exact (List.forall_mem_cons.mpr ⟨(xent_objInit X hT (xg 340 (by decide +kernel) (by decide +kernel)) (xg 159 (by decide +kernel) (by decide +kernel)) (xg 160 (by decide +kernel) (by decide +kernel)) rfl), (fun _ h => nomatch h)⟩)
  · exact (fun _ h => nomatch h)

theorem ok_X0_init (l : Launch) (D : va_G) (cA : Nat → ClassId) (sA : Nat → Nat) (fu : Nat) (s : Nat) (M : xM) {rr : xM} (h : F_X0_init fu s M = some rr) : xMet l D cA sA yX0_init cX0_init 1 none xG (0 + 1) 9 480 [.inr (.inr (0, some s))] M none rr :=
  xmet_of (by decide +kernel) (Nat.le_of_ble_eq_true rfl) (fun p e s1 m ag below meth c0 A0 ad0 Z X hn hE => wx_X0_init X hn ⟨Nat.le_refl _, Nat.le_refl _⟩ hE fu s M h)
theorem hw_X0_init (l : Launch) (D : va_G) (cA : Nat → ClassId) (sA : Nat → Nat) (fu : Nat) {ρ : Type} {r0 : ρ} (kd1 : Nat) : ∀ (as : List xV) (M : xM) (k : Option xV → xM → Option ρ), w_X0_init fu as M k = some r0 → ∃ v M', xMet l D cA sA yX0_init cX0_init 1 none xG (0 + 1) 9 480 as M v M' ∧ k v M' = some r0 ∧ (kd1 ≠ 2 → ∃ a as', as = .inr (.inr (0, some a)) :: as') := by
  intro as M k h
  unfold w_X0_init at h
  replace h := pR_some h
  obtain ⟨o, as1, rfl, h⟩ := h
  replace h := bd_some h
  obtain ⟨s, rfl, h⟩ := h
  replace h := xe_some h
  obtain ⟨rfl, h⟩ := h
  obtain ⟨p1, hp, h⟩ := Option.bind_eq_some_iff.mp h
  exact ⟨_, _, ok_X0_init l D cA sA fu s M hp, h, fun _ => ⟨_, _, rfl⟩⟩
theorem cd_X0_isBlock : Cond.code yX0_isBlock cX0_isBlock 2 (some .boolean) ∈ xG := (xg 951 (by decide +kernel) (by decide +kernel))
theorem pr_X0_isBlock : (∀ e ∈ pX0_isBlock, xrow cX0_isBlock 2 kdX0 flX0 0 false RX0 e) ∧ xnext pX0_isBlock = true := xrows (by decide +kernel)
set_option maxRecDepth 100000 in
theorem wx_X0_isBlock (X : xCtx p R S0 m ag c0 D cA A0 sA 2 cX0_isBlock RX0 (.code yX0_isBlock cX0_isBlock 2 (some .boolean) :: xG) 0 0) (hi : meth.name = yX0_isBlock.name) (hroom : 0 + 2 ≤ R.frames ∧ 60 * (0 + 2) ≤ R.locals) {rr : Int32 × xM} (hE : xEnd l D cA sA cX0_isBlock 2 (some .boolean) R 0 0 (some (.inl rr.1)) rr.2 p e S0 m ag below meth c0 A0 M0 ad0 Z) (fu : Nat) (s : Nat) (x1 : Int32) (M : xM) (h : F_X0_isBlock fu s x1 M = some rr) : xWx p l e R S0 m ag below meth c0 D cA A0 sA M0 ad0 2 Z 0 0 0 0 0 [(0, .inr (.inr (0, some s))), (1, .inl x1)] [] M := by
  rw [← q_X0_isBlock fu s x1 M] at h
  have hT : ∀ w ∈ xG, w ∈ (Cond.code yX0_isBlock cX0_isBlock 2 (some .boolean) :: xG) := fun w hw => List.mem_cons_of_mem _ hw
  refine xrun_sound (nst := 0) (isInit := false) (kd := kdX0) X (xcls_mono hT xclsG) (xpool_mono hT plX0) (fun z => by cases z) (fun idx v hf => xkoE_mono hT (koX0_ok _ (xfind_mem hf))) (xents (ca := _) ?_) (endZ hE).1 (endZ hE).2 (xcuts (cu := _) ?_) pr_X0_isBlock.1 pr_X0_isBlock.2 _ _ _ _ _ _ _ _ (xat_ok pr_X0_isBlock.1 pr_X0_isBlock.2).1 (xat_ok pr_X0_isBlock.1 pr_X0_isBlock.2).2.1 (xat_ok pr_X0_isBlock.1 pr_X0_isBlock.2).2.2 h
  · exact (fun _ h => nomatch h)
  · exact (fun _ h => nomatch h)

theorem ok_X0_isBlock (l : Launch) (D : va_G) (cA : Nat → ClassId) (sA : Nat → Nat) (fu : Nat) (s : Nat) (x1 : Int32) (M : xM) {rr : Int32 × xM} (h : F_X0_isBlock fu s x1 M = some rr) : xMet l D cA sA yX0_isBlock cX0_isBlock 2 (some .boolean) xG (0 + 1) 0 0 [.inr (.inr (0, some s)), .inl x1] M (some (.inl rr.1)) rr.2 :=
  xmet_of (by decide +kernel) (Nat.le_of_ble_eq_true rfl) (fun p e s1 m ag below meth c0 A0 ad0 Z X hn hE => wx_X0_isBlock X hn ⟨Nat.le_refl _, Nat.le_refl _⟩ hE fu s x1 M h)
theorem hw_X0_isBlock (l : Launch) (D : va_G) (cA : Nat → ClassId) (sA : Nat → Nat) (fu : Nat) {ρ : Type} {r0 : ρ} (kd1 : Nat) : ∀ (as : List xV) (M : xM) (k : Option xV → xM → Option ρ), w_X0_isBlock fu as M k = some r0 → ∃ v M', xMet l D cA sA yX0_isBlock cX0_isBlock 2 (some .boolean) xG (0 + 1) 0 0 as M v M' ∧ k v M' = some r0 ∧ (kd1 ≠ 2 → ∃ a as', as = .inr (.inr (0, some a)) :: as') := by
  intro as M k h
  unfold w_X0_isBlock at h
  replace h := pR_some h
  obtain ⟨o, as1, rfl, h⟩ := h
  replace h := bd_some h
  obtain ⟨s, rfl, h⟩ := h
  replace h := pI_some h
  obtain ⟨x1, as1, rfl, h⟩ := h
  replace h := xe_some h
  obtain ⟨rfl, h⟩ := h
  obtain ⟨p1, hp, h⟩ := Option.bind_eq_some_iff.mp h
  exact ⟨_, _, ok_X0_isBlock l D cA sA fu s x1 M hp, h, fun _ => ⟨_, _, rfl⟩⟩
theorem cd_X0_isInJournal : Cond.code yX0_isInJournal cX0_isInJournal 2 (some .boolean) ∈ xG := (xg 927 (by decide +kernel) (by decide +kernel))
theorem pr_X0_isInJournal : (∀ e ∈ pX0_isInJournal, xrow cX0_isInJournal 2 kdX0 flX0 0 false RX0 e) ∧ xnext pX0_isInJournal = true := xrows (by decide +kernel)
set_option maxRecDepth 100000 in
theorem wx_X0_isInJournal_20 (X : xCtx p R S0 m ag c0 D cA A0 sA 2 cX0_isInJournal RX0 (.code yX0_isInJournal cX0_isInJournal 2 (some .boolean) :: xG) 0 0) (hi : meth.name = yX0_isInJournal.name) (hroom : 0 + 2 ≤ R.frames ∧ 60 * (0 + 2) ≤ R.locals) {rr : Int32 × xM} (hE : xEnd l D cA sA cX0_isInJournal 2 (some .boolean) R 0 0 (some (.inl rr.1)) rr.2 p e S0 m ag below meth c0 A0 M0 ad0 Z) (fu : Nat) (s : Nat) (x1 : Int32) (M : xM) (h : J_X0_isInJournal_20 fu s x1 M = some rr) : xWx p l e R S0 m ag below meth c0 D cA A0 sA M0 ad0 2 Z 0 0 20 0 0 [(0, .inr (.inr (0, some s))), (1, .inl x1)] [] M := by
  rw [← q_X0_isInJournal_20 fu s x1 M] at h
  have hT : ∀ w ∈ xG, w ∈ (Cond.code yX0_isInJournal cX0_isInJournal 2 (some .boolean) :: xG) := fun w hw => List.mem_cons_of_mem _ hw
  refine xrun_sound (nst := 0) (isInit := false) (kd := kdX0) X (xcls_mono hT xclsG) (xpool_mono hT plX0) (fun z => by cases z) (fun idx v hf => xkoE_mono hT (koX0_ok _ (xfind_mem hf))) (xents (ca := _) ?_) (endZ hE).1 (endZ hE).2 (xcuts (cu := _) ?_) pr_X0_isInJournal.1 pr_X0_isInJournal.2 _ _ _ _ _ _ _ _ (xat_ok pr_X0_isInJournal.1 pr_X0_isInJournal.2).1 (xat_ok pr_X0_isInJournal.1 pr_X0_isInJournal.2).2.1 (xat_ok pr_X0_isInJournal.1 pr_X0_isInJournal.2).2.2 h
  · exact (fun _ h => nomatch h)
  · exact (fun _ h => nomatch h)

set_option maxRecDepth 100000 in
theorem wx_X0_isInJournal (X : xCtx p R S0 m ag c0 D cA A0 sA 2 cX0_isInJournal RX0 (.code yX0_isInJournal cX0_isInJournal 2 (some .boolean) :: xG) 0 0) (hi : meth.name = yX0_isInJournal.name) (hroom : 0 + 2 ≤ R.frames ∧ 60 * (0 + 2) ≤ R.locals) {rr : Int32 × xM} (hE : xEnd l D cA sA cX0_isInJournal 2 (some .boolean) R 0 0 (some (.inl rr.1)) rr.2 p e S0 m ag below meth c0 A0 M0 ad0 Z) (fu : Nat) (s : Nat) (x1 : Int32) (M : xM) (h : F_X0_isInJournal fu s x1 M = some rr) : xWx p l e R S0 m ag below meth c0 D cA A0 sA M0 ad0 2 Z 0 0 0 0 0 [(0, .inr (.inr (0, some s))), (1, .inl x1)] [] M := by
  rw [← q_X0_isInJournal fu s x1 M] at h
  have hT : ∀ w ∈ xG, w ∈ (Cond.code yX0_isInJournal cX0_isInJournal 2 (some .boolean) :: xG) := fun w hw => List.mem_cons_of_mem _ hw
  refine xrun_sound (nst := 0) (isInit := false) (kd := kdX0) X (xcls_mono hT xclsG) (xpool_mono hT plX0) (fun z => by cases z) (fun idx v hf => xkoE_mono hT (koX0_ok _ (xfind_mem hf))) (xents (ca := _) ?_) (endZ hE).1 (endZ hE).2 (xcuts (cu := _) ?_) pr_X0_isInJournal.1 pr_X0_isInJournal.2 _ _ _ _ _ _ _ _ (xat_ok pr_X0_isInJournal.1 pr_X0_isInJournal.2).1 (xat_ok pr_X0_isInJournal.1 pr_X0_isInJournal.2).2.1 (xat_ok pr_X0_isInJournal.1 pr_X0_isInJournal.2).2.2 h
  · exact (fun _ h => nomatch h)
  · refine (List.forall_mem_cons.mpr ⟨?_, (fun _ h => nomatch h)⟩)
    · intro bc bs ls st M h
      replace h := xz_some h
      obtain ⟨rfl, rfl, h⟩ := h
      replace h := lR_some h
      obtain ⟨o, e0, h⟩ := h
      replace h := bd_some h
      obtain ⟨s', rfl, h⟩ := h
      replace h := lI_some h
      obtain ⟨x1', e1, h⟩ := h
      replace h := xe_some h
      obtain ⟨rfl, h⟩ := h
      exact xWx_ls (wx_X0_isInJournal_20 X hi hroom hE fu s' x1' M h) (List.forall_mem_cons.mpr ⟨e0, (List.forall_mem_cons.mpr ⟨e1, (fun _ h => nomatch h)⟩)⟩)

theorem ok_X0_isInJournal (l : Launch) (D : va_G) (cA : Nat → ClassId) (sA : Nat → Nat) (fu : Nat) (s : Nat) (x1 : Int32) (M : xM) {rr : Int32 × xM} (h : F_X0_isInJournal fu s x1 M = some rr) : xMet l D cA sA yX0_isInJournal cX0_isInJournal 2 (some .boolean) xG (0 + 1) 0 0 [.inr (.inr (0, some s)), .inl x1] M (some (.inl rr.1)) rr.2 :=
  xmet_of (by decide +kernel) (Nat.le_of_ble_eq_true rfl) (fun p e s1 m ag below meth c0 A0 ad0 Z X hn hE => wx_X0_isInJournal X hn ⟨Nat.le_refl _, Nat.le_refl _⟩ hE fu s x1 M h)
theorem hw_X0_isInJournal (l : Launch) (D : va_G) (cA : Nat → ClassId) (sA : Nat → Nat) (fu : Nat) {ρ : Type} {r0 : ρ} (kd1 : Nat) : ∀ (as : List xV) (M : xM) (k : Option xV → xM → Option ρ), w_X0_isInJournal fu as M k = some r0 → ∃ v M', xMet l D cA sA yX0_isInJournal cX0_isInJournal 2 (some .boolean) xG (0 + 1) 0 0 as M v M' ∧ k v M' = some r0 ∧ (kd1 ≠ 2 → ∃ a as', as = .inr (.inr (0, some a)) :: as') := by
  intro as M k h
  unfold w_X0_isInJournal at h
  replace h := pR_some h
  obtain ⟨o, as1, rfl, h⟩ := h
  replace h := bd_some h
  obtain ⟨s, rfl, h⟩ := h
  replace h := pI_some h
  obtain ⟨x1, as1, rfl, h⟩ := h
  replace h := xe_some h
  obtain ⟨rfl, h⟩ := h
  obtain ⟨p1, hp, h⟩ := Option.bind_eq_some_iff.mp h
  exact ⟨_, _, ok_X0_isInJournal l D cA sA fu s x1 M hp, h, fun _ => ⟨_, _, rfl⟩⟩
theorem cd_X0_isSlot : Cond.code yX0_isSlot cX0_isSlot 2 (some .boolean) ∈ xG := (xg 915 (by decide +kernel) (by decide +kernel))
theorem pr_X0_isSlot : (∀ e ∈ pX0_isSlot, xrow cX0_isSlot 2 kdX0 flX0 0 false RX0 e) ∧ xnext pX0_isSlot = true := xrows (by decide +kernel)
set_option maxRecDepth 100000 in
theorem wx_X0_isSlot (X : xCtx p R S0 m ag c0 D cA A0 sA 2 cX0_isSlot RX0 (.code yX0_isSlot cX0_isSlot 2 (some .boolean) :: xG) 0 0) (hi : meth.name = yX0_isSlot.name) (hroom : 0 + 2 ≤ R.frames ∧ 60 * (0 + 2) ≤ R.locals) {rr : Int32 × xM} (hE : xEnd l D cA sA cX0_isSlot 2 (some .boolean) R 0 0 (some (.inl rr.1)) rr.2 p e S0 m ag below meth c0 A0 M0 ad0 Z) (fu : Nat) (s : Nat) (x1 : Int32) (M : xM) (h : F_X0_isSlot fu s x1 M = some rr) : xWx p l e R S0 m ag below meth c0 D cA A0 sA M0 ad0 2 Z 0 0 0 0 0 [(0, .inr (.inr (0, some s))), (1, .inl x1)] [] M := by
  rw [← q_X0_isSlot fu s x1 M] at h
  have hT : ∀ w ∈ xG, w ∈ (Cond.code yX0_isSlot cX0_isSlot 2 (some .boolean) :: xG) := fun w hw => List.mem_cons_of_mem _ hw
  refine xrun_sound (nst := 0) (isInit := false) (kd := kdX0) X (xcls_mono hT xclsG) (xpool_mono hT plX0) (fun z => by cases z) (fun idx v hf => xkoE_mono hT (koX0_ok _ (xfind_mem hf))) (xents (ca := _) ?_) (endZ hE).1 (endZ hE).2 (xcuts (cu := _) ?_) pr_X0_isSlot.1 pr_X0_isSlot.2 _ _ _ _ _ _ _ _ (xat_ok pr_X0_isSlot.1 pr_X0_isSlot.2).1 (xat_ok pr_X0_isSlot.1 pr_X0_isSlot.2).2.1 (xat_ok pr_X0_isSlot.1 pr_X0_isSlot.2).2.2 h
  · exact (fun _ h => nomatch h)
  · exact (fun _ h => nomatch h)

theorem ok_X0_isSlot (l : Launch) (D : va_G) (cA : Nat → ClassId) (sA : Nat → Nat) (fu : Nat) (s : Nat) (x1 : Int32) (M : xM) {rr : Int32 × xM} (h : F_X0_isSlot fu s x1 M = some rr) : xMet l D cA sA yX0_isSlot cX0_isSlot 2 (some .boolean) xG (0 + 1) 0 0 [.inr (.inr (0, some s)), .inl x1] M (some (.inl rr.1)) rr.2 :=
  xmet_of (by decide +kernel) (Nat.le_of_ble_eq_true rfl) (fun p e s1 m ag below meth c0 A0 ad0 Z X hn hE => wx_X0_isSlot X hn ⟨Nat.le_refl _, Nat.le_refl _⟩ hE fu s x1 M h)
theorem hw_X0_isSlot (l : Launch) (D : va_G) (cA : Nat → ClassId) (sA : Nat → Nat) (fu : Nat) {ρ : Type} {r0 : ρ} (kd1 : Nat) : ∀ (as : List xV) (M : xM) (k : Option xV → xM → Option ρ), w_X0_isSlot fu as M k = some r0 → ∃ v M', xMet l D cA sA yX0_isSlot cX0_isSlot 2 (some .boolean) xG (0 + 1) 0 0 as M v M' ∧ k v M' = some r0 ∧ (kd1 ≠ 2 → ∃ a as', as = .inr (.inr (0, some a)) :: as') := by
  intro as M k h
  unfold w_X0_isSlot at h
  replace h := pR_some h
  obtain ⟨o, as1, rfl, h⟩ := h
  replace h := bd_some h
  obtain ⟨s, rfl, h⟩ := h
  replace h := pI_some h
  obtain ⟨x1, as1, rfl, h⟩ := h
  replace h := xe_some h
  obtain ⟨rfl, h⟩ := h
  obtain ⟨p1, hp, h⟩ := Option.bind_eq_some_iff.mp h
  exact ⟨_, _, ok_X0_isSlot l D cA sA fu s x1 M hp, h, fun _ => ⟨_, _, rfl⟩⟩
theorem cd_X0_isWhole : Cond.code yX0_isWhole cX0_isWhole 2 (some .boolean) ∈ xG := (xg 931 (by decide +kernel) (by decide +kernel))
theorem pr_X0_isWhole : (∀ e ∈ pX0_isWhole, xrow cX0_isWhole 2 kdX0 flX0 0 false RX0 e) ∧ xnext pX0_isWhole = true := xrows (by decide +kernel)
set_option maxRecDepth 100000 in
theorem wx_X0_isWhole (X : xCtx p R S0 m ag c0 D cA A0 sA 2 cX0_isWhole RX0 (.code yX0_isWhole cX0_isWhole 2 (some .boolean) :: xG) 0 0) (hi : meth.name = yX0_isWhole.name) (hroom : 0 + 2 ≤ R.frames ∧ 60 * (0 + 2) ≤ R.locals) {rr : Int32 × xM} (hE : xEnd l D cA sA cX0_isWhole 2 (some .boolean) R 0 0 (some (.inl rr.1)) rr.2 p e S0 m ag below meth c0 A0 M0 ad0 Z) (fu : Nat) (s : Nat) (x1 : Int32) (M : xM) (h : F_X0_isWhole fu s x1 M = some rr) : xWx p l e R S0 m ag below meth c0 D cA A0 sA M0 ad0 2 Z 0 0 0 0 0 [(0, .inr (.inr (0, some s))), (1, .inl x1)] [] M := by
  rw [← q_X0_isWhole fu s x1 M] at h
  have hT : ∀ w ∈ xG, w ∈ (Cond.code yX0_isWhole cX0_isWhole 2 (some .boolean) :: xG) := fun w hw => List.mem_cons_of_mem _ hw
  refine xrun_sound (nst := 0) (isInit := false) (kd := kdX0) X (xcls_mono hT xclsG) (xpool_mono hT plX0) (fun z => by cases z) (fun idx v hf => xkoE_mono hT (koX0_ok _ (xfind_mem hf))) (xents (ca := _) ?_) (endZ hE).1 (endZ hE).2 (xcuts (cu := _) ?_) pr_X0_isWhole.1 pr_X0_isWhole.2 _ _ _ _ _ _ _ _ (xat_ok pr_X0_isWhole.1 pr_X0_isWhole.2).1 (xat_ok pr_X0_isWhole.1 pr_X0_isWhole.2).2.1 (xat_ok pr_X0_isWhole.1 pr_X0_isWhole.2).2.2 h
  · exact (fun _ h => nomatch h)
  · exact (fun _ h => nomatch h)

theorem ok_X0_isWhole (l : Launch) (D : va_G) (cA : Nat → ClassId) (sA : Nat → Nat) (fu : Nat) (s : Nat) (x1 : Int32) (M : xM) {rr : Int32 × xM} (h : F_X0_isWhole fu s x1 M = some rr) : xMet l D cA sA yX0_isWhole cX0_isWhole 2 (some .boolean) xG (0 + 1) 0 0 [.inr (.inr (0, some s)), .inl x1] M (some (.inl rr.1)) rr.2 :=
  xmet_of (by decide +kernel) (Nat.le_of_ble_eq_true rfl) (fun p e s1 m ag below meth c0 A0 ad0 Z X hn hE => wx_X0_isWhole X hn ⟨Nat.le_refl _, Nat.le_refl _⟩ hE fu s x1 M h)
theorem hw_X0_isWhole (l : Launch) (D : va_G) (cA : Nat → ClassId) (sA : Nat → Nat) (fu : Nat) {ρ : Type} {r0 : ρ} (kd1 : Nat) : ∀ (as : List xV) (M : xM) (k : Option xV → xM → Option ρ), w_X0_isWhole fu as M k = some r0 → ∃ v M', xMet l D cA sA yX0_isWhole cX0_isWhole 2 (some .boolean) xG (0 + 1) 0 0 as M v M' ∧ k v M' = some r0 ∧ (kd1 ≠ 2 → ∃ a as', as = .inr (.inr (0, some a)) :: as') := by
  intro as M k h
  unfold w_X0_isWhole at h
  replace h := pR_some h
  obtain ⟨o, as1, rfl, h⟩ := h
  replace h := bd_some h
  obtain ⟨s, rfl, h⟩ := h
  replace h := pI_some h
  obtain ⟨x1, as1, rfl, h⟩ := h
  replace h := xe_some h
  obtain ⟨rfl, h⟩ := h
  obtain ⟨p1, hp, h⟩ := Option.bind_eq_some_iff.mp h
  exact ⟨_, _, ok_X0_isWhole l D cA sA fu s x1 M hp, h, fun _ => ⟨_, _, rfl⟩⟩
theorem cd_X0_spreadOfErasures : Cond.code yX0_spreadOfErasures cX0_spreadOfErasures 4 (some .int) ∈ xG := (xg 1293 (by decide +kernel) (by decide +kernel))
theorem pr_X0_spreadOfErasures : (∀ e ∈ pX0_spreadOfErasures, xrow cX0_spreadOfErasures 4 kdX0 flX0 0 false RX0 e) ∧ xnext pX0_spreadOfErasures = true := xrows (by decide +kernel)
set_option maxRecDepth 100000 in
theorem wx_X0_spreadOfErasures_22 (X : xCtx p R S0 m ag c0 D cA A0 sA 4 cX0_spreadOfErasures RX0 (.code yX0_spreadOfErasures cX0_spreadOfErasures 4 (some .int) :: xG) 0 0) (hi : meth.name = yX0_spreadOfErasures.name) (hroom : 6 + 2 ≤ R.frames ∧ 60 * (6 + 2) ≤ R.locals) {rr : Int32 × xM} (hE : xEnd l D cA sA cX0_spreadOfErasures 4 (some .int) R 0 0 (some (.inl rr.1)) rr.2 p e S0 m ag below meth c0 A0 M0 ad0 Z) (fu : Nat) : ∀ (n : Nat) (s : Nat) (x1 : Int32) (x2 : Int32) (x3 : Int32) (M : xM), L_X0_spreadOfErasures_22 fu n s x1 x2 x3 M = some rr → xWx p l e R S0 m ag below meth c0 D cA A0 sA M0 ad0 4 Z 0 0 22 0 0 [(0, .inr (.inr (0, some s))), (1, .inl x1), (2, .inl x2), (3, .inl x3)] [] M := by
  intro n
  induction n with
  | zero => intro s x1 x2 x3 M h; cases h
  | succ n ih =>
    intro s x1 x2 x3 M h
    rw [← q_X0_spreadOfErasures_22 fu n s x1 x2 x3 M] at h
    have hT : ∀ w ∈ xG, w ∈ (Cond.code yX0_spreadOfErasures cX0_spreadOfErasures 4 (some .int) :: xG) := fun w hw => List.mem_cons_of_mem _ hw
    refine xrun_sound (nst := 0) (isInit := false) (kd := kdX0) X (xcls_mono hT xclsG) (xpool_mono hT plX0) (fun z => by cases z) (fun idx v hf => xkoE_mono hT (koX0_ok _ (xfind_mem hf))) (xents (ca := _) ?_) (endI hE).1 (endI hE).2 (xcuts (cu := _) ?_) pr_X0_spreadOfErasures.1 pr_X0_spreadOfErasures.2 _ _ _ _ _ _ _ _ (xat_ok pr_X0_spreadOfErasures.1 pr_X0_spreadOfErasures.2).1 (xat_ok pr_X0_spreadOfErasures.1 pr_X0_spreadOfErasures.2).2.1 (xat_ok pr_X0_spreadOfErasures.1 pr_X0_spreadOfErasures.2).2.2 h
    · exact (List.forall_mem_cons.mpr ⟨(xent_min X hT (xg 425 (by decide +kernel) (by decide +kernel)) (xg 426 (by decide +kernel) (by decide +kernel)) (xg 136 (by decide +kernel) (by decide +kernel)) (xg 427 (by decide +kernel) (by decide +kernel)) rfl), (List.forall_mem_cons.mpr ⟨(xent_max X hT (xg 428 (by decide +kernel) (by decide +kernel)) (xg 429 (by decide +kernel) (by decide +kernel)) (xg 136 (by decide +kernel) (by decide +kernel)) (xg 430 (by decide +kernel) (by decide +kernel)) rfl), (fun _ h => nomatch h)⟩)⟩)
    · refine (List.forall_mem_cons.mpr ⟨?_, (fun _ h => nomatch h)⟩)
      · intro bc bs ls st M h
        replace h := xz_some h
        obtain ⟨rfl, rfl, h⟩ := h
        replace h := lR_some h
        obtain ⟨o, e0, h⟩ := h
        replace h := bd_some h
        obtain ⟨s', rfl, h⟩ := h
        replace h := lI_some h
        obtain ⟨x1', e1, h⟩ := h
        replace h := lI_some h
        obtain ⟨x2', e2, h⟩ := h
        replace h := lI_some h
        obtain ⟨x3', e3, h⟩ := h
        replace h := xe_some h
        obtain ⟨rfl, h⟩ := h
        exact xWx_ls (ih s' x1' x2' x3' M h) (List.forall_mem_cons.mpr ⟨e0, (List.forall_mem_cons.mpr ⟨e1, (List.forall_mem_cons.mpr ⟨e2, (List.forall_mem_cons.mpr ⟨e3, (fun _ h => nomatch h)⟩)⟩)⟩)⟩)

set_option maxRecDepth 100000 in
theorem wx_X0_spreadOfErasures (X : xCtx p R S0 m ag c0 D cA A0 sA 4 cX0_spreadOfErasures RX0 (.code yX0_spreadOfErasures cX0_spreadOfErasures 4 (some .int) :: xG) 0 0) (hi : meth.name = yX0_spreadOfErasures.name) (hroom : 6 + 2 ≤ R.frames ∧ 60 * (6 + 2) ≤ R.locals) {rr : Int32 × xM} (hE : xEnd l D cA sA cX0_spreadOfErasures 4 (some .int) R 0 0 (some (.inl rr.1)) rr.2 p e S0 m ag below meth c0 A0 M0 ad0 Z) (fu : Nat) (s : Nat) (M : xM) (h : F_X0_spreadOfErasures fu s M = some rr) : xWx p l e R S0 m ag below meth c0 D cA A0 sA M0 ad0 4 Z 0 0 0 0 0 [(0, .inr (.inr (0, some s)))] [] M := by
  rw [← q_X0_spreadOfErasures fu s M] at h
  have hT : ∀ w ∈ xG, w ∈ (Cond.code yX0_spreadOfErasures cX0_spreadOfErasures 4 (some .int) :: xG) := fun w hw => List.mem_cons_of_mem _ hw
  refine xrun_sound (nst := 0) (isInit := false) (kd := kdX0) X (xcls_mono hT xclsG) (xpool_mono hT plX0) (fun z => by cases z) (fun idx v hf => xkoE_mono hT (koX0_ok _ (xfind_mem hf))) (xents (ca := _) ?_) (endI hE).1 (endI hE).2 (xcuts (cu := _) ?_) pr_X0_spreadOfErasures.1 pr_X0_spreadOfErasures.2 _ _ _ _ _ _ _ _ (xat_ok pr_X0_spreadOfErasures.1 pr_X0_spreadOfErasures.2).1 (xat_ok pr_X0_spreadOfErasures.1 pr_X0_spreadOfErasures.2).2.1 (xat_ok pr_X0_spreadOfErasures.1 pr_X0_spreadOfErasures.2).2.2 h
  · exact (fun _ h => nomatch h)
  · refine (List.forall_mem_cons.mpr ⟨?_, (fun _ h => nomatch h)⟩)
    · intro bc bs ls st M h
      replace h := xz_some h
      obtain ⟨rfl, rfl, h⟩ := h
      replace h := lR_some h
      obtain ⟨o, e0, h⟩ := h
      replace h := bd_some h
      obtain ⟨s', rfl, h⟩ := h
      replace h := lI_some h
      obtain ⟨x1', e1, h⟩ := h
      replace h := lI_some h
      obtain ⟨x2', e2, h⟩ := h
      replace h := lI_some h
      obtain ⟨x3', e3, h⟩ := h
      replace h := xe_some h
      obtain ⟨rfl, h⟩ := h
      exact xWx_ls (wx_X0_spreadOfErasures_22 X hi hroom hE fu fu s' x1' x2' x3' M h) (List.forall_mem_cons.mpr ⟨e0, (List.forall_mem_cons.mpr ⟨e1, (List.forall_mem_cons.mpr ⟨e2, (List.forall_mem_cons.mpr ⟨e3, (fun _ h => nomatch h)⟩)⟩)⟩)⟩)

theorem ok_X0_spreadOfErasures (l : Launch) (D : va_G) (cA : Nat → ClassId) (sA : Nat → Nat) (fu : Nat) (s : Nat) (M : xM) {rr : Int32 × xM} (h : F_X0_spreadOfErasures fu s M = some rr) : xMet l D cA sA yX0_spreadOfErasures cX0_spreadOfErasures 4 (some .int) xG (6 + 1) 0 0 [.inr (.inr (0, some s))] M (some (.inl rr.1)) rr.2 :=
  xmet_of (by decide +kernel) (Nat.le_of_ble_eq_true rfl) (fun p e s1 m ag below meth c0 A0 ad0 Z X hn hE => wx_X0_spreadOfErasures X hn ⟨Nat.le_refl _, Nat.le_refl _⟩ hE fu s M h)
theorem hw_X0_spreadOfErasures (l : Launch) (D : va_G) (cA : Nat → ClassId) (sA : Nat → Nat) (fu : Nat) {ρ : Type} {r0 : ρ} (kd1 : Nat) : ∀ (as : List xV) (M : xM) (k : Option xV → xM → Option ρ), w_X0_spreadOfErasures fu as M k = some r0 → ∃ v M', xMet l D cA sA yX0_spreadOfErasures cX0_spreadOfErasures 4 (some .int) xG (6 + 1) 0 0 as M v M' ∧ k v M' = some r0 ∧ (kd1 ≠ 2 → ∃ a as', as = .inr (.inr (0, some a)) :: as') := by
  intro as M k h
  unfold w_X0_spreadOfErasures at h
  replace h := pR_some h
  obtain ⟨o, as1, rfl, h⟩ := h
  replace h := bd_some h
  obtain ⟨s, rfl, h⟩ := h
  replace h := xe_some h
  obtain ⟨rfl, h⟩ := h
  obtain ⟨p1, hp, h⟩ := Option.bind_eq_some_iff.mp h
  exact ⟨_, _, ok_X0_spreadOfErasures l D cA sA fu s M hp, h, fun _ => ⟨_, _, rfl⟩⟩
theorem cd_X0_start : Cond.code yX0_start cX0_start 3 none ∈ xG := (xg 424 (by decide +kernel) (by decide +kernel))
theorem pr_X0_start : (∀ e ∈ pX0_start, xrow cX0_start 3 kdX0 flX0 0 false RX0 e) ∧ xnext pX0_start = true := xrows (by decide +kernel)
set_option maxRecDepth 100000 in
theorem wx_X0_start_103 (X : xCtx p R S0 m ag c0 D cA A0 sA 3 cX0_start RX0 (.code yX0_start cX0_start 3 none :: xG) 0 0) (hi : meth.name = yX0_start.name) (hroom : 6 + 2 ≤ R.frames ∧ 60 * (6 + 2) ≤ R.locals) {rr : xM} (hE : xEnd l D cA sA cX0_start 3 none R 0 0 none rr p e S0 m ag below meth c0 A0 M0 ad0 Z) (fu : Nat) : ∀ (n : Nat) (s : Nat) (x2 : Int32) (M : xM), L_X0_start_103 fu n s x2 M = some rr → xWx p l e R S0 m ag below meth c0 D cA A0 sA M0 ad0 3 Z 0 0 103 0 0 [(0, .inr (.inr (0, some s))), (2, .inl x2)] [] M := by
  intro n
  induction n with
  | zero => intro s x2 M h; cases h
  | succ n ih =>
    intro s x2 M h
    rw [← q_X0_start_103 fu n s x2 M] at h
    have hT : ∀ w ∈ xG, w ∈ (Cond.code yX0_start cX0_start 3 none :: xG) := fun w hw => List.mem_cons_of_mem _ hw
    refine xrun_sound (nst := 0) (isInit := false) (kd := kdX0) X (xcls_mono hT xclsG) (xpool_mono hT plX0) (fun z => by cases z) (fun idx v hf => xkoE_mono hT (koX0_ok _ (xfind_mem hf))) (xents (ca := _) ?_) (endV hE).1 (endV hE).2 (xcuts (cu := _) ?_) pr_X0_start.1 pr_X0_start.2 _ _ _ _ _ _ _ _ (xat_ok pr_X0_start.1 pr_X0_start.2).1 (xat_ok pr_X0_start.1 pr_X0_start.2).2.1 (xat_ok pr_X0_start.1 pr_X0_start.2).2.2 h
    · exact (List.forall_mem_cons.mpr ⟨(xent_met X (ci := 0) hT cd_X0_fill lk_X0_76 rfl (by decide) rfl (by decide +kernel) (fun z => absurd z (by decide)) (hw_X0_fill l D cA sA fu 0) (fun _ => ⟨by decide, fun _ => ⟨TX0, 16, rfl⟩⟩) (by constructor <;> omega) (by decide)), (fun _ h => nomatch h)⟩)
    · refine (List.forall_mem_cons.mpr ⟨?_, (fun _ h => nomatch h)⟩)
      · intro bc bs ls st M h
        replace h := xz_some h
        obtain ⟨rfl, rfl, h⟩ := h
        replace h := lR_some h
        obtain ⟨o, e0, h⟩ := h
        replace h := bd_some h
        obtain ⟨s', rfl, h⟩ := h
        replace h := lI_some h
        obtain ⟨x2', e2, h⟩ := h
        replace h := xe_some h
        obtain ⟨rfl, h⟩ := h
        exact xWx_ls (ih s' x2' M h) (List.forall_mem_cons.mpr ⟨e0, (List.forall_mem_cons.mpr ⟨e2, (fun _ h => nomatch h)⟩)⟩)

set_option maxRecDepth 100000 in
theorem wx_X0_start_72 (X : xCtx p R S0 m ag c0 D cA A0 sA 3 cX0_start RX0 (.code yX0_start cX0_start 3 none :: xG) 0 0) (hi : meth.name = yX0_start.name) (hroom : 6 + 2 ≤ R.frames ∧ 60 * (6 + 2) ≤ R.locals) {rr : xM} (hE : xEnd l D cA sA cX0_start 3 none R 0 0 none rr p e S0 m ag below meth c0 A0 M0 ad0 Z) (fu : Nat) : ∀ (n : Nat) (s : Nat) (x2 : Int32) (M : xM), L_X0_start_72 fu n s x2 M = some rr → xWx p l e R S0 m ag below meth c0 D cA A0 sA M0 ad0 3 Z 0 0 72 0 0 [(0, .inr (.inr (0, some s))), (2, .inl x2)] [] M := by
  intro n
  induction n with
  | zero => intro s x2 M h; cases h
  | succ n ih =>
    intro s x2 M h
    rw [← q_X0_start_72 fu n s x2 M] at h
    have hT : ∀ w ∈ xG, w ∈ (Cond.code yX0_start cX0_start 3 none :: xG) := fun w hw => List.mem_cons_of_mem _ hw
    refine xrun_sound (nst := 0) (isInit := false) (kd := kdX0) X (xcls_mono hT xclsG) (xpool_mono hT plX0) (fun z => by cases z) (fun idx v hf => xkoE_mono hT (koX0_ok _ (xfind_mem hf))) (xents (ca := _) ?_) (endV hE).1 (endV hE).2 (xcuts (cu := _) ?_) pr_X0_start.1 pr_X0_start.2 _ _ _ _ _ _ _ _ (xat_ok pr_X0_start.1 pr_X0_start.2).1 (xat_ok pr_X0_start.1 pr_X0_start.2).2.1 (xat_ok pr_X0_start.1 pr_X0_start.2).2.2 h
    · exact (fun _ h => nomatch h)
    · refine (List.forall_mem_cons.mpr ⟨?_, (List.forall_mem_cons.mpr ⟨?_, (fun _ h => nomatch h)⟩)⟩)
      · intro bc bs ls st M h
        replace h := xz_some h
        obtain ⟨rfl, rfl, h⟩ := h
        replace h := lR_some h
        obtain ⟨o, e0, h⟩ := h
        replace h := bd_some h
        obtain ⟨s', rfl, h⟩ := h
        replace h := lI_some h
        obtain ⟨x2', e2, h⟩ := h
        replace h := xe_some h
        obtain ⟨rfl, h⟩ := h
        exact xWx_ls (ih s' x2' M h) (List.forall_mem_cons.mpr ⟨e0, (List.forall_mem_cons.mpr ⟨e2, (fun _ h => nomatch h)⟩)⟩)
      · intro bc bs ls st M h
        replace h := xz_some h
        obtain ⟨rfl, rfl, h⟩ := h
        replace h := lR_some h
        obtain ⟨o, e0, h⟩ := h
        replace h := bd_some h
        obtain ⟨s', rfl, h⟩ := h
        replace h := lI_some h
        obtain ⟨x2', e2, h⟩ := h
        replace h := xe_some h
        obtain ⟨rfl, h⟩ := h
        exact xWx_ls (wx_X0_start_103 X hi hroom hE fu fu s' x2' M h) (List.forall_mem_cons.mpr ⟨e0, (List.forall_mem_cons.mpr ⟨e2, (fun _ h => nomatch h)⟩)⟩)

set_option maxRecDepth 100000 in
theorem wx_X0_start (X : xCtx p R S0 m ag c0 D cA A0 sA 3 cX0_start RX0 (.code yX0_start cX0_start 3 none :: xG) 0 0) (hi : meth.name = yX0_start.name) (hroom : 6 + 2 ≤ R.frames ∧ 60 * (6 + 2) ≤ R.locals) {rr : xM} (hE : xEnd l D cA sA cX0_start 3 none R 0 0 none rr p e S0 m ag below meth c0 A0 M0 ad0 Z) (fu : Nat) (s : Nat) (x1 : Option Nat) (M : xM) (h : F_X0_start fu s x1 M = some rr) : xWx p l e R S0 m ag below meth c0 D cA A0 sA M0 ad0 3 Z 0 0 0 0 0 [(0, .inr (.inr (0, some s))), (1, .inr (.inr (7, x1)))] [] M := by
  rw [← q_X0_start fu s x1 M] at h
  have hT : ∀ w ∈ xG, w ∈ (Cond.code yX0_start cX0_start 3 none :: xG) := fun w hw => List.mem_cons_of_mem _ hw
  refine xrun_sound (nst := 0) (isInit := false) (kd := kdX0) X (xcls_mono hT xclsG) (xpool_mono hT plX0) (fun z => by cases z) (fun idx v hf => xkoE_mono hT (koX0_ok _ (xfind_mem hf))) (xents (ca := _) ?_) (endV hE).1 (endV hE).2 (xcuts (cu := _) ?_) pr_X0_start.1 pr_X0_start.2 _ _ _ _ _ _ _ _ (xat_ok pr_X0_start.1 pr_X0_start.2).1 (xat_ok pr_X0_start.1 pr_X0_start.2).2.1 (xat_ok pr_X0_start.1 pr_X0_start.2).2.2 h
  · exact (List.forall_mem_cons.mpr ⟨(xent_min X hT (xg 425 (by decide +kernel) (by decide +kernel)) (xg 426 (by decide +kernel) (by decide +kernel)) (xg 136 (by decide +kernel) (by decide +kernel)) (xg 427 (by decide +kernel) (by decide +kernel)) rfl), (List.forall_mem_cons.mpr ⟨(xent_max X hT (xg 428 (by decide +kernel) (by decide +kernel)) (xg 429 (by decide +kernel) (by decide +kernel)) (xg 136 (by decide +kernel) (by decide +kernel)) (xg 430 (by decide +kernel) (by decide +kernel)) rfl), (fun _ h => nomatch h)⟩)⟩)
  · refine (List.forall_mem_cons.mpr ⟨?_, (fun _ h => nomatch h)⟩)
    · intro bc bs ls st M h
      replace h := xz_some h
      obtain ⟨rfl, rfl, h⟩ := h
      replace h := lR_some h
      obtain ⟨o, e0, h⟩ := h
      replace h := bd_some h
      obtain ⟨s', rfl, h⟩ := h
      replace h := lI_some h
      obtain ⟨x2', e2, h⟩ := h
      replace h := xe_some h
      obtain ⟨rfl, h⟩ := h
      exact xWx_ls (wx_X0_start_72 X hi hroom hE fu fu s' x2' M h) (List.forall_mem_cons.mpr ⟨e0, (List.forall_mem_cons.mpr ⟨e2, (fun _ h => nomatch h)⟩)⟩)

theorem ok_X0_start (l : Launch) (D : va_G) (cA : Nat → ClassId) (sA : Nat → Nat) (fu : Nat) (s : Nat) (x1 : Option Nat) (M : xM) {rr : xM} (h : F_X0_start fu s x1 M = some rr) : xMet l D cA sA yX0_start cX0_start 3 none xG (6 + 1) 0 0 [.inr (.inr (0, some s)), .inr (.inr (7, x1))] M none rr :=
  xmet_of (by decide +kernel) (Nat.le_of_ble_eq_true rfl) (fun p e s1 m ag below meth c0 A0 ad0 Z X hn hE => wx_X0_start X hn ⟨Nat.le_refl _, Nat.le_refl _⟩ hE fu s x1 M h)
theorem hw_X0_start (l : Launch) (D : va_G) (cA : Nat → ClassId) (sA : Nat → Nat) (fu : Nat) {ρ : Type} {r0 : ρ} (kd1 : Nat) : ∀ (as : List xV) (M : xM) (k : Option xV → xM → Option ρ), w_X0_start fu as M k = some r0 → ∃ v M', xMet l D cA sA yX0_start cX0_start 3 none xG (6 + 1) 0 0 as M v M' ∧ k v M' = some r0 ∧ (kd1 ≠ 2 → ∃ a as', as = .inr (.inr (0, some a)) :: as') := by
  intro as M k h
  unfold w_X0_start at h
  replace h := pR_some h
  obtain ⟨o, as1, rfl, h⟩ := h
  replace h := bd_some h
  obtain ⟨s, rfl, h⟩ := h
  replace h := pR_some h
  obtain ⟨x1, as1, rfl, h⟩ := h
  replace h := xe_some h
  obtain ⟨rfl, h⟩ := h
  obtain ⟨p1, hp, h⟩ := Option.bind_eq_some_iff.mp h
  exact ⟨_, _, ok_X0_start l D cA sA fu s x1 M hp, h, fun _ => ⟨_, _, rfl⟩⟩
theorem lk_X0_90 : xLink xG RX0 90 0 yX0_firstErased 1 := ⟨Or.inl (xg 1031 (by decide +kernel) (by decide +kernel)), (xg 1033 (by decide +kernel) (by decide +kernel)), (xg 23 (by decide +kernel) (by decide +kernel)), (xg 135 (by decide +kernel) (by decide +kernel)), ⟨0, by decide, TX0, 16, rfl⟩⟩
theorem lk_X0_86 : xLink xG RX0 86 0 yX0_freshBlock 0 := ⟨Or.inl (xg 1027 (by decide +kernel) (by decide +kernel)), (xg 1029 (by decide +kernel) (by decide +kernel)), (xg 22 (by decide +kernel) (by decide +kernel)), (xg 135 (by decide +kernel) (by decide +kernel)), ⟨0, by decide, TX0, 16, rfl⟩⟩
theorem cd_X0_takeSlot : Cond.code yX0_takeSlot cX0_takeSlot 2 (some .int) ∈ xG := (xg 1026 (by decide +kernel) (by decide +kernel))
theorem pr_X0_takeSlot : (∀ e ∈ pX0_takeSlot, xrow cX0_takeSlot 2 kdX0 flX0 0 false RX0 e) ∧ xnext pX0_takeSlot = true := xrows (by decide +kernel)
set_option maxRecDepth 100000 in
theorem wx_X0_takeSlot_35 (X : xCtx p R S0 m ag c0 D cA A0 sA 2 cX0_takeSlot RX0 (.code yX0_takeSlot cX0_takeSlot 2 (some .int) :: xG) 0 0) (hi : meth.name = yX0_takeSlot.name) (hroom : 1 + 2 ≤ R.frames ∧ 60 * (1 + 2) ≤ R.locals) {rr : Int32 × xM} (hE : xEnd l D cA sA cX0_takeSlot 2 (some .int) R 0 0 (some (.inl rr.1)) rr.2 p e S0 m ag below meth c0 A0 M0 ad0 Z) (fu : Nat) (s : Nat) (M : xM) (h : J_X0_takeSlot_35 fu s M = some rr) : xWx p l e R S0 m ag below meth c0 D cA A0 sA M0 ad0 2 Z 0 0 35 0 0 [(0, .inr (.inr (0, some s)))] [] M := by
  rw [← q_X0_takeSlot_35 fu s M] at h
  have hT : ∀ w ∈ xG, w ∈ (Cond.code yX0_takeSlot cX0_takeSlot 2 (some .int) :: xG) := fun w hw => List.mem_cons_of_mem _ hw
  refine xrun_sound (nst := 0) (isInit := false) (kd := kdX0) X (xcls_mono hT xclsG) (xpool_mono hT plX0) (fun z => by cases z) (fun idx v hf => xkoE_mono hT (koX0_ok _ (xfind_mem hf))) (xents (ca := _) ?_) (endI hE).1 (endI hE).2 (xcuts (cu := _) ?_) pr_X0_takeSlot.1 pr_X0_takeSlot.2 _ _ _ _ _ _ _ _ (xat_ok pr_X0_takeSlot.1 pr_X0_takeSlot.2).1 (xat_ok pr_X0_takeSlot.1 pr_X0_takeSlot.2).2.1 (xat_ok pr_X0_takeSlot.1 pr_X0_takeSlot.2).2.2 h
  · exact (List.forall_mem_cons.mpr ⟨(xent_met X (ci := 0) hT cd_X0_firstErased lk_X0_90 rfl (by decide) rfl (by decide +kernel) (fun z => absurd z (by decide)) (hw_X0_firstErased l D cA sA fu 0) (fun _ => ⟨by decide, fun _ => ⟨TX0, 16, rfl⟩⟩) (by constructor <;> omega) (by decide)), (fun _ h => nomatch h)⟩)
  · exact (fun _ h => nomatch h)

set_option maxRecDepth 100000 in
theorem wx_X0_takeSlot_19 (X : xCtx p R S0 m ag c0 D cA A0 sA 2 cX0_takeSlot RX0 (.code yX0_takeSlot cX0_takeSlot 2 (some .int) :: xG) 0 0) (hi : meth.name = yX0_takeSlot.name) (hroom : 1 + 2 ≤ R.frames ∧ 60 * (1 + 2) ≤ R.locals) {rr : Int32 × xM} (hE : xEnd l D cA sA cX0_takeSlot 2 (some .int) R 0 0 (some (.inl rr.1)) rr.2 p e S0 m ag below meth c0 A0 M0 ad0 Z) (fu : Nat) (s : Nat) (M : xM) (h : J_X0_takeSlot_19 fu s M = some rr) : xWx p l e R S0 m ag below meth c0 D cA A0 sA M0 ad0 2 Z 0 0 19 0 0 [(0, .inr (.inr (0, some s)))] [] M := by
  rw [← q_X0_takeSlot_19 fu s M] at h
  have hT : ∀ w ∈ xG, w ∈ (Cond.code yX0_takeSlot cX0_takeSlot 2 (some .int) :: xG) := fun w hw => List.mem_cons_of_mem _ hw
  refine xrun_sound (nst := 0) (isInit := false) (kd := kdX0) X (xcls_mono hT xclsG) (xpool_mono hT plX0) (fun z => by cases z) (fun idx v hf => xkoE_mono hT (koX0_ok _ (xfind_mem hf))) (xents (ca := _) ?_) (endI hE).1 (endI hE).2 (xcuts (cu := _) ?_) pr_X0_takeSlot.1 pr_X0_takeSlot.2 _ _ _ _ _ _ _ _ (xat_ok pr_X0_takeSlot.1 pr_X0_takeSlot.2).1 (xat_ok pr_X0_takeSlot.1 pr_X0_takeSlot.2).2.1 (xat_ok pr_X0_takeSlot.1 pr_X0_takeSlot.2).2.2 h
  · exact (List.forall_mem_cons.mpr ⟨(xent_met X (ci := 0) hT cd_X0_freshBlock lk_X0_86 rfl (by decide) rfl (by decide +kernel) (fun z => absurd z (by decide)) (hw_X0_freshBlock l D cA sA fu 0) (fun _ => ⟨by decide, fun _ => ⟨TX0, 16, rfl⟩⟩) (by constructor <;> omega) (by decide)), (fun _ h => nomatch h)⟩)
  · refine (List.forall_mem_cons.mpr ⟨?_, (fun _ h => nomatch h)⟩)
    · intro bc bs ls st M h
      replace h := xz_some h
      obtain ⟨rfl, rfl, h⟩ := h
      replace h := lR_some h
      obtain ⟨o, e0, h⟩ := h
      replace h := bd_some h
      obtain ⟨s', rfl, h⟩ := h
      replace h := xe_some h
      obtain ⟨rfl, h⟩ := h
      exact xWx_ls (wx_X0_takeSlot_35 X hi hroom hE fu s' M h) (List.forall_mem_cons.mpr ⟨e0, (fun _ h => nomatch h)⟩)

set_option maxRecDepth 100000 in
theorem wx_X0_takeSlot (X : xCtx p R S0 m ag c0 D cA A0 sA 2 cX0_takeSlot RX0 (.code yX0_takeSlot cX0_takeSlot 2 (some .int) :: xG) 0 0) (hi : meth.name = yX0_takeSlot.name) (hroom : 1 + 2 ≤ R.frames ∧ 60 * (1 + 2) ≤ R.locals) {rr : Int32 × xM} (hE : xEnd l D cA sA cX0_takeSlot 2 (some .int) R 0 0 (some (.inl rr.1)) rr.2 p e S0 m ag below meth c0 A0 M0 ad0 Z) (fu : Nat) (s : Nat) (M : xM) (h : F_X0_takeSlot fu s M = some rr) : xWx p l e R S0 m ag below meth c0 D cA A0 sA M0 ad0 2 Z 0 0 0 0 0 [(0, .inr (.inr (0, some s)))] [] M := by
  rw [← q_X0_takeSlot fu s M] at h
  have hT : ∀ w ∈ xG, w ∈ (Cond.code yX0_takeSlot cX0_takeSlot 2 (some .int) :: xG) := fun w hw => List.mem_cons_of_mem _ hw
  refine xrun_sound (nst := 0) (isInit := false) (kd := kdX0) X (xcls_mono hT xclsG) (xpool_mono hT plX0) (fun z => by cases z) (fun idx v hf => xkoE_mono hT (koX0_ok _ (xfind_mem hf))) (xents (ca := _) ?_) (endI hE).1 (endI hE).2 (xcuts (cu := _) ?_) pr_X0_takeSlot.1 pr_X0_takeSlot.2 _ _ _ _ _ _ _ _ (xat_ok pr_X0_takeSlot.1 pr_X0_takeSlot.2).1 (xat_ok pr_X0_takeSlot.1 pr_X0_takeSlot.2).2.1 (xat_ok pr_X0_takeSlot.1 pr_X0_takeSlot.2).2.2 h
  · exact (fun _ h => nomatch h)
  · refine (List.forall_mem_cons.mpr ⟨?_, (List.forall_mem_cons.mpr ⟨?_, (fun _ h => nomatch h)⟩)⟩)
    · intro bc bs ls st M h
      replace h := xz_some h
      obtain ⟨rfl, rfl, h⟩ := h
      replace h := lR_some h
      obtain ⟨o, e0, h⟩ := h
      replace h := bd_some h
      obtain ⟨s', rfl, h⟩ := h
      replace h := xe_some h
      obtain ⟨rfl, h⟩ := h
      exact xWx_ls (wx_X0_takeSlot_19 X hi hroom hE fu s' M h) (List.forall_mem_cons.mpr ⟨e0, (fun _ h => nomatch h)⟩)
    · intro bc bs ls st M h
      replace h := xz_some h
      obtain ⟨rfl, rfl, h⟩ := h
      replace h := lR_some h
      obtain ⟨o, e0, h⟩ := h
      replace h := bd_some h
      obtain ⟨s', rfl, h⟩ := h
      replace h := xe_some h
      obtain ⟨rfl, h⟩ := h
      exact xWx_ls (wx_X0_takeSlot_35 X hi hroom hE fu s' M h) (List.forall_mem_cons.mpr ⟨e0, (fun _ h => nomatch h)⟩)

theorem ok_X0_takeSlot (l : Launch) (D : va_G) (cA : Nat → ClassId) (sA : Nat → Nat) (fu : Nat) (s : Nat) (M : xM) {rr : Int32 × xM} (h : F_X0_takeSlot fu s M = some rr) : xMet l D cA sA yX0_takeSlot cX0_takeSlot 2 (some .int) xG (1 + 1) 0 0 [.inr (.inr (0, some s))] M (some (.inl rr.1)) rr.2 :=
  xmet_of (by decide +kernel) (Nat.le_of_ble_eq_true rfl) (fun p e s1 m ag below meth c0 A0 ad0 Z X hn hE => wx_X0_takeSlot X hn ⟨Nat.le_refl _, Nat.le_refl _⟩ hE fu s M h)
theorem hw_X0_takeSlot (l : Launch) (D : va_G) (cA : Nat → ClassId) (sA : Nat → Nat) (fu : Nat) {ρ : Type} {r0 : ρ} (kd1 : Nat) : ∀ (as : List xV) (M : xM) (k : Option xV → xM → Option ρ), w_X0_takeSlot fu as M k = some r0 → ∃ v M', xMet l D cA sA yX0_takeSlot cX0_takeSlot 2 (some .int) xG (1 + 1) 0 0 as M v M' ∧ k v M' = some r0 ∧ (kd1 ≠ 2 → ∃ a as', as = .inr (.inr (0, some a)) :: as') := by
  intro as M k h
  unfold w_X0_takeSlot at h
  replace h := pR_some h
  obtain ⟨o, as1, rfl, h⟩ := h
  replace h := bd_some h
  obtain ⟨s, rfl, h⟩ := h
  replace h := xe_some h
  obtain ⟨rfl, h⟩ := h
  obtain ⟨p1, hp, h⟩ := Option.bind_eq_some_iff.mp h
  exact ⟨_, _, ok_X0_takeSlot l D cA sA fu s M hp, h, fun _ => ⟨_, _, rfl⟩⟩
theorem cd_X0_tell : Cond.code yX0_tell cX0_tell 3 (some .int) ∈ xG := (xg 943 (by decide +kernel) (by decide +kernel))
theorem pr_X0_tell : (∀ e ∈ pX0_tell, xrow cX0_tell 3 kdX0 flX0 0 false RX0 e) ∧ xnext pX0_tell = true := xrows (by decide +kernel)
set_option maxRecDepth 100000 in
theorem wx_X0_tell (X : xCtx p R S0 m ag c0 D cA A0 sA 3 cX0_tell RX0 (.code yX0_tell cX0_tell 3 (some .int) :: xG) 0 0) (hi : meth.name = yX0_tell.name) (hroom : 0 + 2 ≤ R.frames ∧ 60 * (0 + 2) ≤ R.locals) {rr : Int32 × xM} (hE : xEnd l D cA sA cX0_tell 3 (some .int) R 0 0 (some (.inl rr.1)) rr.2 p e S0 m ag below meth c0 A0 M0 ad0 Z) (fu : Nat) (s : Nat) (x1 : Int32) (x2 : Int32) (M : xM) (h : F_X0_tell fu s x1 x2 M = some rr) : xWx p l e R S0 m ag below meth c0 D cA A0 sA M0 ad0 3 Z 0 0 0 0 0 [(0, .inr (.inr (0, some s))), (1, .inl x1), (2, .inl x2)] [] M := by
  rw [← q_X0_tell fu s x1 x2 M] at h
  have hT : ∀ w ∈ xG, w ∈ (Cond.code yX0_tell cX0_tell 3 (some .int) :: xG) := fun w hw => List.mem_cons_of_mem _ hw
  refine xrun_sound (nst := 0) (isInit := false) (kd := kdX0) X (xcls_mono hT xclsG) (xpool_mono hT plX0) (fun z => by cases z) (fun idx v hf => xkoE_mono hT (koX0_ok _ (xfind_mem hf))) (xents (ca := _) ?_) (endI hE).1 (endI hE).2 (xcuts (cu := _) ?_) pr_X0_tell.1 pr_X0_tell.2 _ _ _ _ _ _ _ _ (xat_ok pr_X0_tell.1 pr_X0_tell.2).1 (xat_ok pr_X0_tell.1 pr_X0_tell.2).2.1 (xat_ok pr_X0_tell.1 pr_X0_tell.2).2.2 h
  · exact (fun _ h => nomatch h)
  · exact (fun _ h => nomatch h)

theorem ok_X0_tell (l : Launch) (D : va_G) (cA : Nat → ClassId) (sA : Nat → Nat) (fu : Nat) (s : Nat) (x1 : Int32) (x2 : Int32) (M : xM) {rr : Int32 × xM} (h : F_X0_tell fu s x1 x2 M = some rr) : xMet l D cA sA yX0_tell cX0_tell 3 (some .int) xG (0 + 1) 0 0 [.inr (.inr (0, some s)), .inl x1, .inl x2] M (some (.inl rr.1)) rr.2 :=
  xmet_of (by decide +kernel) (Nat.le_of_ble_eq_true rfl) (fun p e s1 m ag below meth c0 A0 ad0 Z X hn hE => wx_X0_tell X hn ⟨Nat.le_refl _, Nat.le_refl _⟩ hE fu s x1 x2 M h)
theorem hw_X0_tell (l : Launch) (D : va_G) (cA : Nat → ClassId) (sA : Nat → Nat) (fu : Nat) {ρ : Type} {r0 : ρ} (kd1 : Nat) : ∀ (as : List xV) (M : xM) (k : Option xV → xM → Option ρ), w_X0_tell fu as M k = some r0 → ∃ v M', xMet l D cA sA yX0_tell cX0_tell 3 (some .int) xG (0 + 1) 0 0 as M v M' ∧ k v M' = some r0 ∧ (kd1 ≠ 2 → ∃ a as', as = .inr (.inr (0, some a)) :: as') := by
  intro as M k h
  unfold w_X0_tell at h
  replace h := pR_some h
  obtain ⟨o, as1, rfl, h⟩ := h
  replace h := bd_some h
  obtain ⟨s, rfl, h⟩ := h
  replace h := pI_some h
  obtain ⟨x1, as1, rfl, h⟩ := h
  replace h := pI_some h
  obtain ⟨x2, as1, rfl, h⟩ := h
  replace h := xe_some h
  obtain ⟨rfl, h⟩ := h
  obtain ⟨p1, hp, h⟩ := Option.bind_eq_some_iff.mp h
  exact ⟨_, _, ok_X0_tell l D cA sA fu s x1 x2 M hp, h, fun _ => ⟨_, _, rfl⟩⟩
theorem cd_X10_add : Cond.code yX10_add cX10_add 5 none ∈ xG := (xg 633 (by decide +kernel) (by decide +kernel))
theorem pr_X10_add : (∀ e ∈ pX10_add, xrow cX10_add 5 kdX10 flX10 0 false RX10 e) ∧ xnext pX10_add = true := xrows (by decide +kernel)
set_option maxRecDepth 100000 in
theorem wx_X10_add_49 (X : xCtx p R S0 m ag c0 D cA A0 sA 5 cX10_add RX10 (.code yX10_add cX10_add 5 none :: xG) 0 0) (hi : meth.name = yX10_add.name) (hroom : 0 + 2 ≤ R.frames ∧ 60 * (0 + 2) ≤ R.locals) {rr : xM} (hE : xEnd l D cA sA cX10_add 5 none R 0 0 none rr p e S0 m ag below meth c0 A0 M0 ad0 Z) (fu : Nat) (k3 : Nat → Int64 → Int32 → xM → Option xM) (hk3 : ∀ (s : Nat) (x1 : Int64) (x3 : Int32) (M : xM), k3 s x1 x3 M = some rr → xWx p l e R S0 m ag below meth c0 D cA A0 sA M0 ad0 5 Z 0 0 3 0 0 [(0, .inr (.inr (10, some s))), (1, .inr (.inl x1)), (3, .inl x3)] [] M) (s : Nat) (x1 : Int64) (x3 : Int32) (x4 : Int32) (M : xM) (h : J_X10_add_49 fu k3 s x1 x3 x4 M = some rr) : xWx p l e R S0 m ag below meth c0 D cA A0 sA M0 ad0 5 Z 0 0 49 0 0 [(0, .inr (.inr (10, some s))), (1, .inr (.inl x1)), (3, .inl x3), (4, .inl x4)] [] M := by
  rw [← q_X10_add_49 fu k3 s x1 x3 x4 M] at h
  have hT : ∀ w ∈ xG, w ∈ (Cond.code yX10_add cX10_add 5 none :: xG) := fun w hw => List.mem_cons_of_mem _ hw
  refine xrun_sound (nst := 0) (isInit := false) (kd := kdX10) X (xcls_mono hT xclsG) (xpool_mono hT plX10) (fun z => by cases z) (fun idx v hf => xkoE_mono hT (koX10_ok _ (xfind_mem hf))) (xents (ca := _) ?_) (endV hE).1 (endV hE).2 (xcuts (cu := _) ?_) pr_X10_add.1 pr_X10_add.2 _ _ _ _ _ _ _ _ (xat_ok pr_X10_add.1 pr_X10_add.2).1 (xat_ok pr_X10_add.1 pr_X10_add.2).2.1 (xat_ok pr_X10_add.1 pr_X10_add.2).2.2 h
  · exact (fun _ h => nomatch h)
  · refine (List.forall_mem_cons.mpr ⟨?_, (fun _ h => nomatch h)⟩)
    · intro bc bs ls st M h
      replace h := xz_some h
      obtain ⟨rfl, rfl, h⟩ := h
      replace h := lR_some h
      obtain ⟨o, e0, h⟩ := h
      replace h := bd_some h
      obtain ⟨s', rfl, h⟩ := h
      replace h := lL_some h
      obtain ⟨x1', e1, h⟩ := h
      replace h := lI_some h
      obtain ⟨x3', e3, h⟩ := h
      replace h := xe_some h
      obtain ⟨rfl, h⟩ := h
      exact xWx_ls (hk3 s' x1' x3' M h) (List.forall_mem_cons.mpr ⟨e0, (List.forall_mem_cons.mpr ⟨e1, (List.forall_mem_cons.mpr ⟨e3, (fun _ h => nomatch h)⟩)⟩)⟩)

set_option maxRecDepth 100000 in
theorem wx_X10_add_3 (X : xCtx p R S0 m ag c0 D cA A0 sA 5 cX10_add RX10 (.code yX10_add cX10_add 5 none :: xG) 0 0) (hi : meth.name = yX10_add.name) (hroom : 0 + 2 ≤ R.frames ∧ 60 * (0 + 2) ≤ R.locals) {rr : xM} (hE : xEnd l D cA sA cX10_add 5 none R 0 0 none rr p e S0 m ag below meth c0 A0 M0 ad0 Z) (fu : Nat) : ∀ (n : Nat) (s : Nat) (x1 : Int64) (x3 : Int32) (M : xM), L_X10_add_3 fu n s x1 x3 M = some rr → xWx p l e R S0 m ag below meth c0 D cA A0 sA M0 ad0 5 Z 0 0 3 0 0 [(0, .inr (.inr (10, some s))), (1, .inr (.inl x1)), (3, .inl x3)] [] M := by
  intro n
  induction n with
  | zero => intro s x1 x3 M h; cases h
  | succ n ih =>
    intro s x1 x3 M h
    rw [← q_X10_add_3 fu n s x1 x3 M] at h
    have hT : ∀ w ∈ xG, w ∈ (Cond.code yX10_add cX10_add 5 none :: xG) := fun w hw => List.mem_cons_of_mem _ hw
    refine xrun_sound (nst := 0) (isInit := false) (kd := kdX10) X (xcls_mono hT xclsG) (xpool_mono hT plX10) (fun z => by cases z) (fun idx v hf => xkoE_mono hT (koX10_ok _ (xfind_mem hf))) (xents (ca := _) ?_) (endV hE).1 (endV hE).2 (xcuts (cu := _) ?_) pr_X10_add.1 pr_X10_add.2 _ _ _ _ _ _ _ _ (xat_ok pr_X10_add.1 pr_X10_add.2).1 (xat_ok pr_X10_add.1 pr_X10_add.2).2.1 (xat_ok pr_X10_add.1 pr_X10_add.2).2.2 h
    · exact (fun _ h => nomatch h)
    · refine (List.forall_mem_cons.mpr ⟨?_, (List.forall_mem_cons.mpr ⟨?_, (fun _ h => nomatch h)⟩)⟩)
      · intro bc bs ls st M h
        replace h := xz_some h
        obtain ⟨rfl, rfl, h⟩ := h
        replace h := lR_some h
        obtain ⟨o, e0, h⟩ := h
        replace h := bd_some h
        obtain ⟨s', rfl, h⟩ := h
        replace h := lL_some h
        obtain ⟨x1', e1, h⟩ := h
        replace h := lI_some h
        obtain ⟨x3', e3, h⟩ := h
        replace h := xe_some h
        obtain ⟨rfl, h⟩ := h
        exact xWx_ls (ih s' x1' x3' M h) (List.forall_mem_cons.mpr ⟨e0, (List.forall_mem_cons.mpr ⟨e1, (List.forall_mem_cons.mpr ⟨e3, (fun _ h => nomatch h)⟩)⟩)⟩)
      · intro bc bs ls st M h
        replace h := xz_some h
        obtain ⟨rfl, rfl, h⟩ := h
        replace h := lR_some h
        obtain ⟨o, e0, h⟩ := h
        replace h := bd_some h
        obtain ⟨s', rfl, h⟩ := h
        replace h := lL_some h
        obtain ⟨x1', e1, h⟩ := h
        replace h := lI_some h
        obtain ⟨x3', e3, h⟩ := h
        replace h := lI_some h
        obtain ⟨x4', e4, h⟩ := h
        replace h := xe_some h
        obtain ⟨rfl, h⟩ := h
        exact xWx_ls (wx_X10_add_49 X hi hroom hE fu _ ih s' x1' x3' x4' M h) (List.forall_mem_cons.mpr ⟨e0, (List.forall_mem_cons.mpr ⟨e1, (List.forall_mem_cons.mpr ⟨e3, (List.forall_mem_cons.mpr ⟨e4, (fun _ h => nomatch h)⟩)⟩)⟩)⟩)

set_option maxRecDepth 100000 in
theorem wx_X10_add (X : xCtx p R S0 m ag c0 D cA A0 sA 5 cX10_add RX10 (.code yX10_add cX10_add 5 none :: xG) 0 0) (hi : meth.name = yX10_add.name) (hroom : 0 + 2 ≤ R.frames ∧ 60 * (0 + 2) ≤ R.locals) {rr : xM} (hE : xEnd l D cA sA cX10_add 5 none R 0 0 none rr p e S0 m ag below meth c0 A0 M0 ad0 Z) (fu : Nat) (s : Nat) (x1 : Int64) (M : xM) (h : F_X10_add fu s x1 M = some rr) : xWx p l e R S0 m ag below meth c0 D cA A0 sA M0 ad0 5 Z 0 0 0 0 0 [(0, .inr (.inr (10, some s))), (1, .inr (.inl x1))] [] M := by
  rw [← q_X10_add fu s x1 M] at h
  have hT : ∀ w ∈ xG, w ∈ (Cond.code yX10_add cX10_add 5 none :: xG) := fun w hw => List.mem_cons_of_mem _ hw
  refine xrun_sound (nst := 0) (isInit := false) (kd := kdX10) X (xcls_mono hT xclsG) (xpool_mono hT plX10) (fun z => by cases z) (fun idx v hf => xkoE_mono hT (koX10_ok _ (xfind_mem hf))) (xents (ca := _) ?_) (endV hE).1 (endV hE).2 (xcuts (cu := _) ?_) pr_X10_add.1 pr_X10_add.2 _ _ _ _ _ _ _ _ (xat_ok pr_X10_add.1 pr_X10_add.2).1 (xat_ok pr_X10_add.1 pr_X10_add.2).2.1 (xat_ok pr_X10_add.1 pr_X10_add.2).2.2 h
  · exact (fun _ h => nomatch h)
  · refine (List.forall_mem_cons.mpr ⟨?_, (fun _ h => nomatch h)⟩)
    · intro bc bs ls st M h
      replace h := xz_some h
      obtain ⟨rfl, rfl, h⟩ := h
      replace h := lR_some h
      obtain ⟨o, e0, h⟩ := h
      replace h := bd_some h
      obtain ⟨s', rfl, h⟩ := h
      replace h := lL_some h
      obtain ⟨x1', e1, h⟩ := h
      replace h := lI_some h
      obtain ⟨x3', e3, h⟩ := h
      replace h := xe_some h
      obtain ⟨rfl, h⟩ := h
      exact xWx_ls (wx_X10_add_3 X hi hroom hE fu fu s' x1' x3' M h) (List.forall_mem_cons.mpr ⟨e0, (List.forall_mem_cons.mpr ⟨e1, (List.forall_mem_cons.mpr ⟨e3, (fun _ h => nomatch h)⟩)⟩)⟩)

theorem ok_X10_add (l : Launch) (D : va_G) (cA : Nat → ClassId) (sA : Nat → Nat) (fu : Nat) (s : Nat) (x1 : Int64) (M : xM) {rr : xM} (h : F_X10_add fu s x1 M = some rr) : xMet l D cA sA yX10_add cX10_add 5 none xG (0 + 1) 0 0 [.inr (.inr (10, some s)), .inr (.inl x1)] M none rr :=
  xmet_of (by decide +kernel) (Nat.le_of_ble_eq_true rfl) (fun p e s1 m ag below meth c0 A0 ad0 Z X hn hE => wx_X10_add X hn ⟨Nat.le_refl _, Nat.le_refl _⟩ hE fu s x1 M h)
theorem hw_X10_add (l : Launch) (D : va_G) (cA : Nat → ClassId) (sA : Nat → Nat) (fu : Nat) {ρ : Type} {r0 : ρ} (kd1 : Nat) : ∀ (as : List xV) (M : xM) (k : Option xV → xM → Option ρ), w_X10_add fu as M k = some r0 → ∃ v M', xMet l D cA sA yX10_add cX10_add 5 none xG (0 + 1) 0 0 as M v M' ∧ k v M' = some r0 ∧ (kd1 ≠ 2 → ∃ a as', as = .inr (.inr (10, some a)) :: as') := by
  intro as M k h
  unfold w_X10_add at h
  replace h := pR_some h
  obtain ⟨o, as1, rfl, h⟩ := h
  replace h := bd_some h
  obtain ⟨s, rfl, h⟩ := h
  replace h := pL_some h
  obtain ⟨x1, as1, rfl, h⟩ := h
  replace h := xe_some h
  obtain ⟨rfl, h⟩ := h
  obtain ⟨p1, hp, h⟩ := Option.bind_eq_some_iff.mp h
  exact ⟨_, _, ok_X10_add l D cA sA fu s x1 M hp, h, fun _ => ⟨_, _, rfl⟩⟩
theorem cd_X10_isLetter : Cond.code yX10_isLetter cX10_isLetter 1 (some .boolean) ∈ xG := (xg 657 (by decide +kernel) (by decide +kernel))
theorem pr_X10_isLetter : (∀ e ∈ pX10_isLetter, xrow cX10_isLetter 1 kdX10 flX10 0 false RX10 e) ∧ xnext pX10_isLetter = true := xrows (by decide +kernel)
set_option maxRecDepth 100000 in
theorem wx_X10_isLetter (X : xCtx p R S0 m ag c0 D cA A0 sA 1 cX10_isLetter RX10 (.code yX10_isLetter cX10_isLetter 1 (some .boolean) :: xG) 0 0) (hi : meth.name = yX10_isLetter.name) (hroom : 0 + 2 ≤ R.frames ∧ 60 * (0 + 2) ≤ R.locals) {rr : Int32 × xM} (hE : xEnd l D cA sA cX10_isLetter 1 (some .boolean) R 0 0 (some (.inl rr.1)) rr.2 p e S0 m ag below meth c0 A0 M0 ad0 Z) (fu : Nat) (x0 : Int32) (M : xM) (h : F_X10_isLetter fu x0 M = some rr) : xWx p l e R S0 m ag below meth c0 D cA A0 sA M0 ad0 1 Z 0 0 0 0 0 [(0, .inl x0)] [] M := by
  rw [← q_X10_isLetter fu x0 M] at h
  have hT : ∀ w ∈ xG, w ∈ (Cond.code yX10_isLetter cX10_isLetter 1 (some .boolean) :: xG) := fun w hw => List.mem_cons_of_mem _ hw
  refine xrun_sound (nst := 0) (isInit := false) (kd := kdX10) X (xcls_mono hT xclsG) (xpool_mono hT plX10) (fun z => by cases z) (fun idx v hf => xkoE_mono hT (koX10_ok _ (xfind_mem hf))) (xents (ca := _) ?_) (endZ hE).1 (endZ hE).2 (xcuts (cu := _) ?_) pr_X10_isLetter.1 pr_X10_isLetter.2 _ _ _ _ _ _ _ _ (xat_ok pr_X10_isLetter.1 pr_X10_isLetter.2).1 (xat_ok pr_X10_isLetter.1 pr_X10_isLetter.2).2.1 (xat_ok pr_X10_isLetter.1 pr_X10_isLetter.2).2.2 h
  · exact (fun _ h => nomatch h)
  · exact (fun _ h => nomatch h)

theorem ok_X10_isLetter (l : Launch) (D : va_G) (cA : Nat → ClassId) (sA : Nat → Nat) (fu : Nat) (x0 : Int32) (M : xM) {rr : Int32 × xM} (h : F_X10_isLetter fu x0 M = some rr) : xMet l D cA sA yX10_isLetter cX10_isLetter 1 (some .boolean) xG (0 + 1) 0 0 [.inl x0] M (some (.inl rr.1)) rr.2 :=
  xmet_of (by decide +kernel) (Nat.le_of_ble_eq_true rfl) (fun p e s1 m ag below meth c0 A0 ad0 Z X hn hE => wx_X10_isLetter X hn ⟨Nat.le_refl _, Nat.le_refl _⟩ hE fu x0 M h)
theorem hw_X10_isLetter (l : Launch) (D : va_G) (cA : Nat → ClassId) (sA : Nat → Nat) (fu : Nat) {ρ : Type} {r0 : ρ} (kd1 : Nat) (hk2 : kd1 = 2) : ∀ (as : List xV) (M : xM) (k : Option xV → xM → Option ρ), w_X10_isLetter fu as M k = some r0 → ∃ v M', xMet l D cA sA yX10_isLetter cX10_isLetter 1 (some .boolean) xG (0 + 1) 0 0 as M v M' ∧ k v M' = some r0 ∧ (kd1 ≠ 2 → ∃ a as', as = .inr (.inr (10, some a)) :: as') := by
  intro as M k h
  unfold w_X10_isLetter at h
  replace h := pI_some h
  obtain ⟨x0, as1, rfl, h⟩ := h
  replace h := xe_some h
  obtain ⟨rfl, h⟩ := h
  obtain ⟨p1, hp, h⟩ := Option.bind_eq_some_iff.mp h
  exact ⟨_, _, ok_X10_isLetter l D cA sA fu x0 M hp, h, fun z => absurd hk2 z⟩
theorem lk_X10_46 : xLink xG RX10 46 2 yX10_isLetter 1 := ⟨(xg 655 (by decide +kernel) (by decide +kernel)), (xg 656 (by decide +kernel) (by decide +kernel)), (xg 129 (by decide +kernel) (by decide +kernel))⟩
theorem cd_X10_readWord : Cond.code yX10_readWord cX10_readWord 1 none ∈ xG := (xg 661 (by decide +kernel) (by decide +kernel))
theorem pr_X10_readWord : (∀ e ∈ pX10_readWord, xrow cX10_readWord 1 kdX10 flX10 0 false RX10 e) ∧ xnext pX10_readWord = true := xrows (by decide +kernel)
set_option maxRecDepth 100000 in
theorem wx_X10_readWord_72 (X : xCtx p R S0 m ag c0 D cA A0 sA 1 cX10_readWord RX10 (.code yX10_readWord cX10_readWord 1 none :: xG) 0 0) (hi : meth.name = yX10_readWord.name) (hroom : 1 + 2 ≤ R.frames ∧ 60 * (1 + 2) ≤ R.locals) {rr : xM} (hE : xEnd l D cA sA cX10_readWord 1 none R 0 0 none rr p e S0 m ag below meth c0 A0 M0 ad0 Z) (fu : Nat) (s : Nat) (M : xM) (h : J_X10_readWord_72 fu s M = some rr) : xWx p l e R S0 m ag below meth c0 D cA A0 sA M0 ad0 1 Z 0 0 72 0 0 [(0, .inr (.inr (10, some s)))] [] M := by
  rw [← q_X10_readWord_72 fu s M] at h
  have hT : ∀ w ∈ xG, w ∈ (Cond.code yX10_readWord cX10_readWord 1 none :: xG) := fun w hw => List.mem_cons_of_mem _ hw
  refine xrun_sound (nst := 0) (isInit := false) (kd := kdX10) X (xcls_mono hT xclsG) (xpool_mono hT plX10) (fun z => by cases z) (fun idx v hf => xkoE_mono hT (koX10_ok _ (xfind_mem hf))) (xents (ca := _) ?_) (endV hE).1 (endV hE).2 (xcuts (cu := _) ?_) pr_X10_readWord.1 pr_X10_readWord.2 _ _ _ _ _ _ _ _ (xat_ok pr_X10_readWord.1 pr_X10_readWord.2).1 (xat_ok pr_X10_readWord.1 pr_X10_readWord.2).2.1 (xat_ok pr_X10_readWord.1 pr_X10_readWord.2).2.2 h
  · exact (fun _ h => nomatch h)
  · exact (fun _ h => nomatch h)

set_option maxRecDepth 100000 in
theorem wx_X10_readWord_5 (X : xCtx p R S0 m ag c0 D cA A0 sA 1 cX10_readWord RX10 (.code yX10_readWord cX10_readWord 1 none :: xG) 0 0) (hi : meth.name = yX10_readWord.name) (hroom : 1 + 2 ≤ R.frames ∧ 60 * (1 + 2) ≤ R.locals) {rr : xM} (hE : xEnd l D cA sA cX10_readWord 1 none R 0 0 none rr p e S0 m ag below meth c0 A0 M0 ad0 Z) (fu : Nat) : ∀ (n : Nat) (s : Nat) (M : xM), L_X10_readWord_5 fu n s M = some rr → xWx p l e R S0 m ag below meth c0 D cA A0 sA M0 ad0 1 Z 0 0 5 0 0 [(0, .inr (.inr (10, some s)))] [] M := by
  intro n
  induction n with
  | zero => intro s M h; cases h
  | succ n ih =>
    intro s M h
    rw [← q_X10_readWord_5 fu n s M] at h
    have hT : ∀ w ∈ xG, w ∈ (Cond.code yX10_readWord cX10_readWord 1 none :: xG) := fun w hw => List.mem_cons_of_mem _ hw
    refine xrun_sound (nst := 0) (isInit := false) (kd := kdX10) X (xcls_mono hT xclsG) (xpool_mono hT plX10) (fun z => by cases z) (fun idx v hf => xkoE_mono hT (koX10_ok _ (xfind_mem hf))) (xents (ca := _) ?_) (endV hE).1 (endV hE).2 (xcuts (cu := _) ?_) pr_X10_readWord.1 pr_X10_readWord.2 _ _ _ _ _ _ _ _ (xat_ok pr_X10_readWord.1 pr_X10_readWord.2).1 (xat_ok pr_X10_readWord.1 pr_X10_readWord.2).2.1 (xat_ok pr_X10_readWord.1 pr_X10_readWord.2).2.2 h
    · exact (List.forall_mem_cons.mpr ⟨(xent_met X (ci := 10) hT cd_X10_isLetter lk_X10_46 rfl (by decide) rfl (by decide +kernel) (fun z => absurd z (by decide)) (hw_X10_isLetter l D cA sA fu 2 rfl) (fun z => absurd rfl z) (by constructor <;> omega) (by decide)), (fun _ h => nomatch h)⟩)
    · refine (List.forall_mem_cons.mpr ⟨?_, (List.forall_mem_cons.mpr ⟨?_, (fun _ h => nomatch h)⟩)⟩)
      · intro bc bs ls st M h
        replace h := xz_some h
        obtain ⟨rfl, rfl, h⟩ := h
        replace h := lR_some h
        obtain ⟨o, e0, h⟩ := h
        replace h := bd_some h
        obtain ⟨s', rfl, h⟩ := h
        replace h := xe_some h
        obtain ⟨rfl, h⟩ := h
        exact xWx_ls (ih s' M h) (List.forall_mem_cons.mpr ⟨e0, (fun _ h => nomatch h)⟩)
      · intro bc bs ls st M h
        replace h := xz_some h
        obtain ⟨rfl, rfl, h⟩ := h
        replace h := lR_some h
        obtain ⟨o, e0, h⟩ := h
        replace h := bd_some h
        obtain ⟨s', rfl, h⟩ := h
        replace h := xe_some h
        obtain ⟨rfl, h⟩ := h
        exact xWx_ls (wx_X10_readWord_72 X hi hroom hE fu s' M h) (List.forall_mem_cons.mpr ⟨e0, (fun _ h => nomatch h)⟩)

set_option maxRecDepth 100000 in
theorem wx_X10_readWord (X : xCtx p R S0 m ag c0 D cA A0 sA 1 cX10_readWord RX10 (.code yX10_readWord cX10_readWord 1 none :: xG) 0 0) (hi : meth.name = yX10_readWord.name) (hroom : 1 + 2 ≤ R.frames ∧ 60 * (1 + 2) ≤ R.locals) {rr : xM} (hE : xEnd l D cA sA cX10_readWord 1 none R 0 0 none rr p e S0 m ag below meth c0 A0 M0 ad0 Z) (fu : Nat) (s : Nat) (M : xM) (h : F_X10_readWord fu s M = some rr) : xWx p l e R S0 m ag below meth c0 D cA A0 sA M0 ad0 1 Z 0 0 0 0 0 [(0, .inr (.inr (10, some s)))] [] M := by
  rw [← q_X10_readWord fu s M] at h
  have hT : ∀ w ∈ xG, w ∈ (Cond.code yX10_readWord cX10_readWord 1 none :: xG) := fun w hw => List.mem_cons_of_mem _ hw
  refine xrun_sound (nst := 0) (isInit := false) (kd := kdX10) X (xcls_mono hT xclsG) (xpool_mono hT plX10) (fun z => by cases z) (fun idx v hf => xkoE_mono hT (koX10_ok _ (xfind_mem hf))) (xents (ca := _) ?_) (endV hE).1 (endV hE).2 (xcuts (cu := _) ?_) pr_X10_readWord.1 pr_X10_readWord.2 _ _ _ _ _ _ _ _ (xat_ok pr_X10_readWord.1 pr_X10_readWord.2).1 (xat_ok pr_X10_readWord.1 pr_X10_readWord.2).2.1 (xat_ok pr_X10_readWord.1 pr_X10_readWord.2).2.2 h
  · exact (fun _ h => nomatch h)
  · refine (List.forall_mem_cons.mpr ⟨?_, (fun _ h => nomatch h)⟩)
    · intro bc bs ls st M h
      replace h := xz_some h
      obtain ⟨rfl, rfl, h⟩ := h
      replace h := lR_some h
      obtain ⟨o, e0, h⟩ := h
      replace h := bd_some h
      obtain ⟨s', rfl, h⟩ := h
      replace h := xe_some h
      obtain ⟨rfl, h⟩ := h
      exact xWx_ls (wx_X10_readWord_5 X hi hroom hE fu fu s' M h) (List.forall_mem_cons.mpr ⟨e0, (fun _ h => nomatch h)⟩)

theorem ok_X10_readWord (l : Launch) (D : va_G) (cA : Nat → ClassId) (sA : Nat → Nat) (fu : Nat) (s : Nat) (M : xM) {rr : xM} (h : F_X10_readWord fu s M = some rr) : xMet l D cA sA yX10_readWord cX10_readWord 1 none xG (1 + 1) 0 0 [.inr (.inr (10, some s))] M none rr :=
  xmet_of (by decide +kernel) (Nat.le_of_ble_eq_true rfl) (fun p e s1 m ag below meth c0 A0 ad0 Z X hn hE => wx_X10_readWord X hn ⟨Nat.le_refl _, Nat.le_refl _⟩ hE fu s M h)
theorem hw_X10_readWord (l : Launch) (D : va_G) (cA : Nat → ClassId) (sA : Nat → Nat) (fu : Nat) {ρ : Type} {r0 : ρ} (kd1 : Nat) : ∀ (as : List xV) (M : xM) (k : Option xV → xM → Option ρ), w_X10_readWord fu as M k = some r0 → ∃ v M', xMet l D cA sA yX10_readWord cX10_readWord 1 none xG (1 + 1) 0 0 as M v M' ∧ k v M' = some r0 ∧ (kd1 ≠ 2 → ∃ a as', as = .inr (.inr (10, some a)) :: as') := by
  intro as M k h
  unfold w_X10_readWord at h
  replace h := pR_some h
  obtain ⟨o, as1, rfl, h⟩ := h
  replace h := bd_some h
  obtain ⟨s, rfl, h⟩ := h
  replace h := xe_some h
  obtain ⟨rfl, h⟩ := h
  obtain ⟨p1, hp, h⟩ := Option.bind_eq_some_iff.mp h
  exact ⟨_, _, ok_X10_readWord l D cA sA fu s M hp, h, fun _ => ⟨_, _, rfl⟩⟩
theorem cd_X10_isDigit : Cond.code yX10_isDigit cX10_isDigit 1 (some .boolean) ∈ xG := (xg 665 (by decide +kernel) (by decide +kernel))
theorem pr_X10_isDigit : (∀ e ∈ pX10_isDigit, xrow cX10_isDigit 1 kdX10 flX10 0 false RX10 e) ∧ xnext pX10_isDigit = true := xrows (by decide +kernel)
set_option maxRecDepth 100000 in
theorem wx_X10_isDigit (X : xCtx p R S0 m ag c0 D cA A0 sA 1 cX10_isDigit RX10 (.code yX10_isDigit cX10_isDigit 1 (some .boolean) :: xG) 0 0) (hi : meth.name = yX10_isDigit.name) (hroom : 0 + 2 ≤ R.frames ∧ 60 * (0 + 2) ≤ R.locals) {rr : Int32 × xM} (hE : xEnd l D cA sA cX10_isDigit 1 (some .boolean) R 0 0 (some (.inl rr.1)) rr.2 p e S0 m ag below meth c0 A0 M0 ad0 Z) (fu : Nat) (x0 : Int32) (M : xM) (h : F_X10_isDigit fu x0 M = some rr) : xWx p l e R S0 m ag below meth c0 D cA A0 sA M0 ad0 1 Z 0 0 0 0 0 [(0, .inl x0)] [] M := by
  rw [← q_X10_isDigit fu x0 M] at h
  have hT : ∀ w ∈ xG, w ∈ (Cond.code yX10_isDigit cX10_isDigit 1 (some .boolean) :: xG) := fun w hw => List.mem_cons_of_mem _ hw
  refine xrun_sound (nst := 0) (isInit := false) (kd := kdX10) X (xcls_mono hT xclsG) (xpool_mono hT plX10) (fun z => by cases z) (fun idx v hf => xkoE_mono hT (koX10_ok _ (xfind_mem hf))) (xents (ca := _) ?_) (endZ hE).1 (endZ hE).2 (xcuts (cu := _) ?_) pr_X10_isDigit.1 pr_X10_isDigit.2 _ _ _ _ _ _ _ _ (xat_ok pr_X10_isDigit.1 pr_X10_isDigit.2).1 (xat_ok pr_X10_isDigit.1 pr_X10_isDigit.2).2.1 (xat_ok pr_X10_isDigit.1 pr_X10_isDigit.2).2.2 h
  · exact (fun _ h => nomatch h)
  · exact (fun _ h => nomatch h)

theorem ok_X10_isDigit (l : Launch) (D : va_G) (cA : Nat → ClassId) (sA : Nat → Nat) (fu : Nat) (x0 : Int32) (M : xM) {rr : Int32 × xM} (h : F_X10_isDigit fu x0 M = some rr) : xMet l D cA sA yX10_isDigit cX10_isDigit 1 (some .boolean) xG (0 + 1) 0 0 [.inl x0] M (some (.inl rr.1)) rr.2 :=
  xmet_of (by decide +kernel) (Nat.le_of_ble_eq_true rfl) (fun p e s1 m ag below meth c0 A0 ad0 Z X hn hE => wx_X10_isDigit X hn ⟨Nat.le_refl _, Nat.le_refl _⟩ hE fu x0 M h)
theorem hw_X10_isDigit (l : Launch) (D : va_G) (cA : Nat → ClassId) (sA : Nat → Nat) (fu : Nat) {ρ : Type} {r0 : ρ} (kd1 : Nat) (hk2 : kd1 = 2) : ∀ (as : List xV) (M : xM) (k : Option xV → xM → Option ρ), w_X10_isDigit fu as M k = some r0 → ∃ v M', xMet l D cA sA yX10_isDigit cX10_isDigit 1 (some .boolean) xG (0 + 1) 0 0 as M v M' ∧ k v M' = some r0 ∧ (kd1 ≠ 2 → ∃ a as', as = .inr (.inr (10, some a)) :: as') := by
  intro as M k h
  unfold w_X10_isDigit at h
  replace h := pI_some h
  obtain ⟨x0, as1, rfl, h⟩ := h
  replace h := xe_some h
  obtain ⟨rfl, h⟩ := h
  obtain ⟨p1, hp, h⟩ := Option.bind_eq_some_iff.mp h
  exact ⟨_, _, ok_X10_isDigit l D cA sA fu x0 M hp, h, fun z => absurd hk2 z⟩
theorem lk_X10_53 : xLink xG RX10 53 2 yX10_isDigit 1 := ⟨(xg 663 (by decide +kernel) (by decide +kernel)), (xg 664 (by decide +kernel) (by decide +kernel)), (xg 129 (by decide +kernel) (by decide +kernel))⟩
theorem cd_X10_readNumber : Cond.code yX10_readNumber cX10_readNumber 1 none ∈ xG := (xg 669 (by decide +kernel) (by decide +kernel))
theorem pr_X10_readNumber : (∀ e ∈ pX10_readNumber, xrow cX10_readNumber 1 kdX10 flX10 0 false RX10 e) ∧ xnext pX10_readNumber = true := xrows (by decide +kernel)
set_option maxRecDepth 100000 in
theorem wx_X10_readNumber_68 (X : xCtx p R S0 m ag c0 D cA A0 sA 1 cX10_readNumber RX10 (.code yX10_readNumber cX10_readNumber 1 none :: xG) 0 0) (hi : meth.name = yX10_readNumber.name) (hroom : 1 + 2 ≤ R.frames ∧ 60 * (1 + 2) ≤ R.locals) {rr : xM} (hE : xEnd l D cA sA cX10_readNumber 1 none R 0 0 none rr p e S0 m ag below meth c0 A0 M0 ad0 Z) (fu : Nat) (s : Nat) (M : xM) (h : J_X10_readNumber_68 fu s M = some rr) : xWx p l e R S0 m ag below meth c0 D cA A0 sA M0 ad0 1 Z 0 0 68 0 0 [(0, .inr (.inr (10, some s)))] [] M := by
  rw [← q_X10_readNumber_68 fu s M] at h
  have hT : ∀ w ∈ xG, w ∈ (Cond.code yX10_readNumber cX10_readNumber 1 none :: xG) := fun w hw => List.mem_cons_of_mem _ hw
  refine xrun_sound (nst := 0) (isInit := false) (kd := kdX10) X (xcls_mono hT xclsG) (xpool_mono hT plX10) (fun z => by cases z) (fun idx v hf => xkoE_mono hT (koX10_ok _ (xfind_mem hf))) (xents (ca := _) ?_) (endV hE).1 (endV hE).2 (xcuts (cu := _) ?_) pr_X10_readNumber.1 pr_X10_readNumber.2 _ _ _ _ _ _ _ _ (xat_ok pr_X10_readNumber.1 pr_X10_readNumber.2).1 (xat_ok pr_X10_readNumber.1 pr_X10_readNumber.2).2.1 (xat_ok pr_X10_readNumber.1 pr_X10_readNumber.2).2.2 h
  · exact (fun _ h => nomatch h)
  · exact (fun _ h => nomatch h)

set_option maxRecDepth 100000 in
theorem wx_X10_readNumber_5 (X : xCtx p R S0 m ag c0 D cA A0 sA 1 cX10_readNumber RX10 (.code yX10_readNumber cX10_readNumber 1 none :: xG) 0 0) (hi : meth.name = yX10_readNumber.name) (hroom : 1 + 2 ≤ R.frames ∧ 60 * (1 + 2) ≤ R.locals) {rr : xM} (hE : xEnd l D cA sA cX10_readNumber 1 none R 0 0 none rr p e S0 m ag below meth c0 A0 M0 ad0 Z) (fu : Nat) : ∀ (n : Nat) (s : Nat) (M : xM), L_X10_readNumber_5 fu n s M = some rr → xWx p l e R S0 m ag below meth c0 D cA A0 sA M0 ad0 1 Z 0 0 5 0 0 [(0, .inr (.inr (10, some s)))] [] M := by
  intro n
  induction n with
  | zero => intro s M h; cases h
  | succ n ih =>
    intro s M h
    rw [← q_X10_readNumber_5 fu n s M] at h
    have hT : ∀ w ∈ xG, w ∈ (Cond.code yX10_readNumber cX10_readNumber 1 none :: xG) := fun w hw => List.mem_cons_of_mem _ hw
    refine xrun_sound (nst := 0) (isInit := false) (kd := kdX10) X (xcls_mono hT xclsG) (xpool_mono hT plX10) (fun z => by cases z) (fun idx v hf => xkoE_mono hT (koX10_ok _ (xfind_mem hf))) (xents (ca := _) ?_) (endV hE).1 (endV hE).2 (xcuts (cu := _) ?_) pr_X10_readNumber.1 pr_X10_readNumber.2 _ _ _ _ _ _ _ _ (xat_ok pr_X10_readNumber.1 pr_X10_readNumber.2).1 (xat_ok pr_X10_readNumber.1 pr_X10_readNumber.2).2.1 (xat_ok pr_X10_readNumber.1 pr_X10_readNumber.2).2.2 h
    · exact (List.forall_mem_cons.mpr ⟨(xent_met X (ci := 10) hT cd_X10_isDigit lk_X10_53 rfl (by decide) rfl (by decide +kernel) (fun z => absurd z (by decide)) (hw_X10_isDigit l D cA sA fu 2 rfl) (fun z => absurd rfl z) (by constructor <;> omega) (by decide)), (fun _ h => nomatch h)⟩)
    · refine (List.forall_mem_cons.mpr ⟨?_, (List.forall_mem_cons.mpr ⟨?_, (fun _ h => nomatch h)⟩)⟩)
      · intro bc bs ls st M h
        replace h := xz_some h
        obtain ⟨rfl, rfl, h⟩ := h
        replace h := lR_some h
        obtain ⟨o, e0, h⟩ := h
        replace h := bd_some h
        obtain ⟨s', rfl, h⟩ := h
        replace h := xe_some h
        obtain ⟨rfl, h⟩ := h
        exact xWx_ls (ih s' M h) (List.forall_mem_cons.mpr ⟨e0, (fun _ h => nomatch h)⟩)
      · intro bc bs ls st M h
        replace h := xz_some h
        obtain ⟨rfl, rfl, h⟩ := h
        replace h := lR_some h
        obtain ⟨o, e0, h⟩ := h
        replace h := bd_some h
        obtain ⟨s', rfl, h⟩ := h
        replace h := xe_some h
        obtain ⟨rfl, h⟩ := h
        exact xWx_ls (wx_X10_readNumber_68 X hi hroom hE fu s' M h) (List.forall_mem_cons.mpr ⟨e0, (fun _ h => nomatch h)⟩)

set_option maxRecDepth 100000 in
theorem wx_X10_readNumber (X : xCtx p R S0 m ag c0 D cA A0 sA 1 cX10_readNumber RX10 (.code yX10_readNumber cX10_readNumber 1 none :: xG) 0 0) (hi : meth.name = yX10_readNumber.name) (hroom : 1 + 2 ≤ R.frames ∧ 60 * (1 + 2) ≤ R.locals) {rr : xM} (hE : xEnd l D cA sA cX10_readNumber 1 none R 0 0 none rr p e S0 m ag below meth c0 A0 M0 ad0 Z) (fu : Nat) (s : Nat) (M : xM) (h : F_X10_readNumber fu s M = some rr) : xWx p l e R S0 m ag below meth c0 D cA A0 sA M0 ad0 1 Z 0 0 0 0 0 [(0, .inr (.inr (10, some s)))] [] M := by
  rw [← q_X10_readNumber fu s M] at h
  have hT : ∀ w ∈ xG, w ∈ (Cond.code yX10_readNumber cX10_readNumber 1 none :: xG) := fun w hw => List.mem_cons_of_mem _ hw
  refine xrun_sound (nst := 0) (isInit := false) (kd := kdX10) X (xcls_mono hT xclsG) (xpool_mono hT plX10) (fun z => by cases z) (fun idx v hf => xkoE_mono hT (koX10_ok _ (xfind_mem hf))) (xents (ca := _) ?_) (endV hE).1 (endV hE).2 (xcuts (cu := _) ?_) pr_X10_readNumber.1 pr_X10_readNumber.2 _ _ _ _ _ _ _ _ (xat_ok pr_X10_readNumber.1 pr_X10_readNumber.2).1 (xat_ok pr_X10_readNumber.1 pr_X10_readNumber.2).2.1 (xat_ok pr_X10_readNumber.1 pr_X10_readNumber.2).2.2 h
  · exact (fun _ h => nomatch h)
  · refine (List.forall_mem_cons.mpr ⟨?_, (fun _ h => nomatch h)⟩)
    · intro bc bs ls st M h
      replace h := xz_some h
      obtain ⟨rfl, rfl, h⟩ := h
      replace h := lR_some h
      obtain ⟨o, e0, h⟩ := h
      replace h := bd_some h
      obtain ⟨s', rfl, h⟩ := h
      replace h := xe_some h
      obtain ⟨rfl, h⟩ := h
      exact xWx_ls (wx_X10_readNumber_5 X hi hroom hE fu fu s' M h) (List.forall_mem_cons.mpr ⟨e0, (fun _ h => nomatch h)⟩)

theorem ok_X10_readNumber (l : Launch) (D : va_G) (cA : Nat → ClassId) (sA : Nat → Nat) (fu : Nat) (s : Nat) (M : xM) {rr : xM} (h : F_X10_readNumber fu s M = some rr) : xMet l D cA sA yX10_readNumber cX10_readNumber 1 none xG (1 + 1) 0 0 [.inr (.inr (10, some s))] M none rr :=
  xmet_of (by decide +kernel) (Nat.le_of_ble_eq_true rfl) (fun p e s1 m ag below meth c0 A0 ad0 Z X hn hE => wx_X10_readNumber X hn ⟨Nat.le_refl _, Nat.le_refl _⟩ hE fu s M h)
theorem hw_X10_readNumber (l : Launch) (D : va_G) (cA : Nat → ClassId) (sA : Nat → Nat) (fu : Nat) {ρ : Type} {r0 : ρ} (kd1 : Nat) : ∀ (as : List xV) (M : xM) (k : Option xV → xM → Option ρ), w_X10_readNumber fu as M k = some r0 → ∃ v M', xMet l D cA sA yX10_readNumber cX10_readNumber 1 none xG (1 + 1) 0 0 as M v M' ∧ k v M' = some r0 ∧ (kd1 ≠ 2 → ∃ a as', as = .inr (.inr (10, some a)) :: as') := by
  intro as M k h
  unfold w_X10_readNumber at h
  replace h := pR_some h
  obtain ⟨o, as1, rfl, h⟩ := h
  replace h := bd_some h
  obtain ⟨s, rfl, h⟩ := h
  replace h := xe_some h
  obtain ⟨rfl, h⟩ := h
  obtain ⟨p1, hp, h⟩ := Option.bind_eq_some_iff.mp h
  exact ⟨_, _, ok_X10_readNumber l D cA sA fu s M hp, h, fun _ => ⟨_, _, rfl⟩⟩
theorem cd_X10_letter : Cond.code yX10_letter cX10_letter 2 (some .char) ∈ xG := (xg 781 (by decide +kernel) (by decide +kernel))
theorem pr_X10_letter : (∀ e ∈ pX10_letter, xrow cX10_letter 2 kdX10 flX10 0 false RX10 e) ∧ xnext pX10_letter = true := xrows (by decide +kernel)
set_option maxRecDepth 100000 in
theorem wx_X10_letter (X : xCtx p R S0 m ag c0 D cA A0 sA 2 cX10_letter RX10 (.code yX10_letter cX10_letter 2 (some .char) :: xG) 0 0) (hi : meth.name = yX10_letter.name) (hroom : 0 + 2 ≤ R.frames ∧ 60 * (0 + 2) ≤ R.locals) {rr : Int32 × xM} (hE : xEnd l D cA sA cX10_letter 2 (some .char) R 0 0 (some (.inl rr.1)) rr.2 p e S0 m ag below meth c0 A0 M0 ad0 Z) (fu : Nat) (s : Nat) (x1 : Int32) (M : xM) (h : F_X10_letter fu s x1 M = some rr) : xWx p l e R S0 m ag below meth c0 D cA A0 sA M0 ad0 2 Z 0 0 0 0 0 [(0, .inr (.inr (10, some s))), (1, .inl x1)] [] M := by
  rw [← q_X10_letter fu s x1 M] at h
  have hT : ∀ w ∈ xG, w ∈ (Cond.code yX10_letter cX10_letter 2 (some .char) :: xG) := fun w hw => List.mem_cons_of_mem _ hw
  refine xrun_sound (nst := 0) (isInit := false) (kd := kdX10) X (xcls_mono hT xclsG) (xpool_mono hT plX10) (fun z => by cases z) (fun idx v hf => xkoE_mono hT (koX10_ok _ (xfind_mem hf))) (xents (ca := _) ?_) (endC hE).1 (endC hE).2 (xcuts (cu := _) ?_) pr_X10_letter.1 pr_X10_letter.2 _ _ _ _ _ _ _ _ (xat_ok pr_X10_letter.1 pr_X10_letter.2).1 (xat_ok pr_X10_letter.1 pr_X10_letter.2).2.1 (xat_ok pr_X10_letter.1 pr_X10_letter.2).2.2 h
  · exact (fun _ h => nomatch h)
  · exact (fun _ h => nomatch h)

theorem ok_X10_letter (l : Launch) (D : va_G) (cA : Nat → ClassId) (sA : Nat → Nat) (fu : Nat) (s : Nat) (x1 : Int32) (M : xM) {rr : Int32 × xM} (h : F_X10_letter fu s x1 M = some rr) : xMet l D cA sA yX10_letter cX10_letter 2 (some .char) xG (0 + 1) 0 0 [.inr (.inr (10, some s)), .inl x1] M (some (.inl rr.1)) rr.2 :=
  xmet_of (by decide +kernel) (Nat.le_of_ble_eq_true rfl) (fun p e s1 m ag below meth c0 A0 ad0 Z X hn hE => wx_X10_letter X hn ⟨Nat.le_refl _, Nat.le_refl _⟩ hE fu s x1 M h)
theorem hw_X10_letter (l : Launch) (D : va_G) (cA : Nat → ClassId) (sA : Nat → Nat) (fu : Nat) {ρ : Type} {r0 : ρ} (kd1 : Nat) : ∀ (as : List xV) (M : xM) (k : Option xV → xM → Option ρ), w_X10_letter fu as M k = some r0 → ∃ v M', xMet l D cA sA yX10_letter cX10_letter 2 (some .char) xG (0 + 1) 0 0 as M v M' ∧ k v M' = some r0 ∧ (kd1 ≠ 2 → ∃ a as', as = .inr (.inr (10, some a)) :: as') := by
  intro as M k h
  unfold w_X10_letter at h
  replace h := pR_some h
  obtain ⟨o, as1, rfl, h⟩ := h
  replace h := bd_some h
  obtain ⟨s, rfl, h⟩ := h
  replace h := pI_some h
  obtain ⟨x1, as1, rfl, h⟩ := h
  replace h := xe_some h
  obtain ⟨rfl, h⟩ := h
  obtain ⟨p1, hp, h⟩ := Option.bind_eq_some_iff.mp h
  exact ⟨_, _, ok_X10_letter l D cA sA fu s x1 M hp, h, fun _ => ⟨_, _, rfl⟩⟩
theorem lk_X10_83 : xLink xG RX10 83 0 yX10_letter 1 := ⟨Or.inl (xg 778 (by decide +kernel) (by decide +kernel)), (xg 780 (by decide +kernel) (by decide +kernel)), (xg 4 (by decide +kernel) (by decide +kernel)), (xg 129 (by decide +kernel) (by decide +kernel)), ⟨10, by decide, TX10, 10, rfl⟩⟩
theorem cd_X10_knownWord : Cond.code yX10_knownWord cX10_knownWord 3 (some .int) ∈ xG := (xg 756 (by decide +kernel) (by decide +kernel))
theorem pr_X10_knownWord : (∀ e ∈ pX10_knownWord, xrow cX10_knownWord 3 kdX10 flX10 0 false RX10 e) ∧ xnext pX10_knownWord = true := xrows (by decide +kernel)
set_option maxRecDepth 100000 in
theorem wx_X10_knownWord_41 (X : xCtx p R S0 m ag c0 D cA A0 sA 3 cX10_knownWord RX10 (.code yX10_knownWord cX10_knownWord 3 (some .int) :: xG) 0 0) (hi : meth.name = yX10_knownWord.name) (hroom : 6 + 2 ≤ R.frames ∧ 60 * (6 + 2) ≤ R.locals) {rr : Int32 × xM} (hE : xEnd l D cA sA cX10_knownWord 3 (some .int) R 0 0 (some (.inl rr.1)) rr.2 p e S0 m ag below meth c0 A0 M0 ad0 Z) (fu : Nat) (k2 : Nat → Int32 → xM → Option (Int32 × xM)) (hk2 : ∀ (s : Nat) (x1 : Int32) (M : xM), k2 s x1 M = some rr → xWx p l e R S0 m ag below meth c0 D cA A0 sA M0 ad0 3 Z 0 0 2 0 0 [(0, .inr (.inr (10, some s))), (1, .inl x1)] [] M) (s : Nat) (x1 : Int32) (x2 : Int32) (M : xM) (h : J_X10_knownWord_41 fu k2 s x1 x2 M = some rr) : xWx p l e R S0 m ag below meth c0 D cA A0 sA M0 ad0 3 Z 0 0 41 0 0 [(0, .inr (.inr (10, some s))), (1, .inl x1), (2, .inl x2)] [] M := by
  rw [← q_X10_knownWord_41 fu k2 s x1 x2 M] at h
  have hT : ∀ w ∈ xG, w ∈ (Cond.code yX10_knownWord cX10_knownWord 3 (some .int) :: xG) := fun w hw => List.mem_cons_of_mem _ hw
  refine xrun_sound (nst := 0) (isInit := false) (kd := kdX10) X (xcls_mono hT xclsG) (xpool_mono hT plX10) (fun z => by cases z) (fun idx v hf => xkoE_mono hT (koX10_ok _ (xfind_mem hf))) (xents (ca := _) ?_) (endI hE).1 (endI hE).2 (xcuts (cu := _) ?_) pr_X10_knownWord.1 pr_X10_knownWord.2 _ _ _ _ _ _ _ _ (xat_ok pr_X10_knownWord.1 pr_X10_knownWord.2).1 (xat_ok pr_X10_knownWord.1 pr_X10_knownWord.2).2.1 (xat_ok pr_X10_knownWord.1 pr_X10_knownWord.2).2.2 h
  · exact (fun _ h => nomatch h)
  · refine (List.forall_mem_cons.mpr ⟨?_, (fun _ h => nomatch h)⟩)
    · intro bc bs ls st M h
      replace h := xz_some h
      obtain ⟨rfl, rfl, h⟩ := h
      replace h := lR_some h
      obtain ⟨o, e0, h⟩ := h
      replace h := bd_some h
      obtain ⟨s', rfl, h⟩ := h
      replace h := lI_some h
      obtain ⟨x1', e1, h⟩ := h
      replace h := xe_some h
      obtain ⟨rfl, h⟩ := h
      exact xWx_ls (hk2 s' x1' M h) (List.forall_mem_cons.mpr ⟨e0, (List.forall_mem_cons.mpr ⟨e1, (fun _ h => nomatch h)⟩)⟩)

set_option maxRecDepth 100000 in
theorem wx_X10_knownWord_10 (X : xCtx p R S0 m ag c0 D cA A0 sA 3 cX10_knownWord RX10 (.code yX10_knownWord cX10_knownWord 3 (some .int) :: xG) 0 0) (hi : meth.name = yX10_knownWord.name) (hroom : 6 + 2 ≤ R.frames ∧ 60 * (6 + 2) ≤ R.locals) {rr : Int32 × xM} (hE : xEnd l D cA sA cX10_knownWord 3 (some .int) R 0 0 (some (.inl rr.1)) rr.2 p e S0 m ag below meth c0 A0 M0 ad0 Z) (fu : Nat) (k2 : Nat → Int32 → xM → Option (Int32 × xM)) (hk2 : ∀ (s : Nat) (x1 : Int32) (M : xM), k2 s x1 M = some rr → xWx p l e R S0 m ag below meth c0 D cA A0 sA M0 ad0 3 Z 0 0 2 0 0 [(0, .inr (.inr (10, some s))), (1, .inl x1)] [] M) : ∀ (n : Nat) (s : Nat) (x1 : Int32) (x2 : Int32) (M : xM), L_X10_knownWord_10 fu k2 n s x1 x2 M = some rr → xWx p l e R S0 m ag below meth c0 D cA A0 sA M0 ad0 3 Z 0 0 10 0 0 [(0, .inr (.inr (10, some s))), (1, .inl x1), (2, .inl x2)] [] M := by
  intro n
  induction n with
  | zero => intro s x1 x2 M h; cases h
  | succ n ih =>
    intro s x1 x2 M h
    rw [← q_X10_knownWord_10 fu k2 n s x1 x2 M] at h
    have hT : ∀ w ∈ xG, w ∈ (Cond.code yX10_knownWord cX10_knownWord 3 (some .int) :: xG) := fun w hw => List.mem_cons_of_mem _ hw
    refine xrun_sound (nst := 0) (isInit := false) (kd := kdX10) X (xcls_mono hT xclsG) (xpool_mono hT plX10) (fun z => by cases z) (fun idx v hf => xkoE_mono hT (koX10_ok _ (xfind_mem hf))) (xents (ca := _) ?_) (endI hE).1 (endI hE).2 (xcuts (cu := _) ?_) pr_X10_knownWord.1 pr_X10_knownWord.2 _ _ _ _ _ _ _ _ (xat_ok pr_X10_knownWord.1 pr_X10_knownWord.2).1 (xat_ok pr_X10_knownWord.1 pr_X10_knownWord.2).2.1 (xat_ok pr_X10_knownWord.1 pr_X10_knownWord.2).2.2 h
    · exact (List.forall_mem_cons.mpr ⟨(xent_charAt X hT (xg 758 (by decide +kernel) (by decide +kernel)) rfl (by omega) hroom), (List.forall_mem_cons.mpr ⟨(xent_met X (ci := 10) hT cd_X10_letter lk_X10_83 rfl (by decide) rfl (by decide +kernel) (fun z => absurd z (by decide)) (hw_X10_letter l D cA sA fu 0) (fun _ => ⟨by decide, fun _ => ⟨TX10, 10, rfl⟩⟩) (by constructor <;> omega) (by decide)), (fun _ h => nomatch h)⟩)⟩)
    · refine (List.forall_mem_cons.mpr ⟨?_, (List.forall_mem_cons.mpr ⟨?_, (fun _ h => nomatch h)⟩)⟩)
      · intro bc bs ls st M h
        replace h := xz_some h
        obtain ⟨rfl, rfl, h⟩ := h
        replace h := lR_some h
        obtain ⟨o, e0, h⟩ := h
        replace h := bd_some h
        obtain ⟨s', rfl, h⟩ := h
        replace h := lI_some h
        obtain ⟨x1', e1, h⟩ := h
        replace h := lI_some h
        obtain ⟨x2', e2, h⟩ := h
        replace h := xe_some h
        obtain ⟨rfl, h⟩ := h
        exact xWx_ls (ih s' x1' x2' M h) (List.forall_mem_cons.mpr ⟨e0, (List.forall_mem_cons.mpr ⟨e1, (List.forall_mem_cons.mpr ⟨e2, (fun _ h => nomatch h)⟩)⟩)⟩)
      · intro bc bs ls st M h
        replace h := xz_some h
        obtain ⟨rfl, rfl, h⟩ := h
        replace h := lR_some h
        obtain ⟨o, e0, h⟩ := h
        replace h := bd_some h
        obtain ⟨s', rfl, h⟩ := h
        replace h := lI_some h
        obtain ⟨x1', e1, h⟩ := h
        replace h := lI_some h
        obtain ⟨x2', e2, h⟩ := h
        replace h := xe_some h
        obtain ⟨rfl, h⟩ := h
        exact xWx_ls (wx_X10_knownWord_41 X hi hroom hE fu k2 hk2 s' x1' x2' M h) (List.forall_mem_cons.mpr ⟨e0, (List.forall_mem_cons.mpr ⟨e1, (List.forall_mem_cons.mpr ⟨e2, (fun _ h => nomatch h)⟩)⟩)⟩)

set_option maxRecDepth 100000 in
theorem wx_X10_knownWord_2 (X : xCtx p R S0 m ag c0 D cA A0 sA 3 cX10_knownWord RX10 (.code yX10_knownWord cX10_knownWord 3 (some .int) :: xG) 0 0) (hi : meth.name = yX10_knownWord.name) (hroom : 6 + 2 ≤ R.frames ∧ 60 * (6 + 2) ≤ R.locals) {rr : Int32 × xM} (hE : xEnd l D cA sA cX10_knownWord 3 (some .int) R 0 0 (some (.inl rr.1)) rr.2 p e S0 m ag below meth c0 A0 M0 ad0 Z) (fu : Nat) : ∀ (n : Nat) (s : Nat) (x1 : Int32) (M : xM), L_X10_knownWord_2 fu n s x1 M = some rr → xWx p l e R S0 m ag below meth c0 D cA A0 sA M0 ad0 3 Z 0 0 2 0 0 [(0, .inr (.inr (10, some s))), (1, .inl x1)] [] M := by
  intro n
  induction n with
  | zero => intro s x1 M h; cases h
  | succ n ih =>
    intro s x1 M h
    rw [← q_X10_knownWord_2 fu n s x1 M] at h
    have hT : ∀ w ∈ xG, w ∈ (Cond.code yX10_knownWord cX10_knownWord 3 (some .int) :: xG) := fun w hw => List.mem_cons_of_mem _ hw
    refine xrun_sound (nst := 0) (isInit := false) (kd := kdX10) X (xcls_mono hT xclsG) (xpool_mono hT plX10) (fun z => by cases z) (fun idx v hf => xkoE_mono hT (koX10_ok _ (xfind_mem hf))) (xents (ca := _) ?_) (endI hE).1 (endI hE).2 (xcuts (cu := _) ?_) pr_X10_knownWord.1 pr_X10_knownWord.2 _ _ _ _ _ _ _ _ (xat_ok pr_X10_knownWord.1 pr_X10_knownWord.2).1 (xat_ok pr_X10_knownWord.1 pr_X10_knownWord.2).2.1 (xat_ok pr_X10_knownWord.1 pr_X10_knownWord.2).2.2 h
    · exact (fun _ h => nomatch h)
    · refine (List.forall_mem_cons.mpr ⟨?_, (fun _ h => nomatch h)⟩)
      · intro bc bs ls st M h
        replace h := xz_some h
        obtain ⟨rfl, rfl, h⟩ := h
        replace h := lR_some h
        obtain ⟨o, e0, h⟩ := h
        replace h := bd_some h
        obtain ⟨s', rfl, h⟩ := h
        replace h := lI_some h
        obtain ⟨x1', e1, h⟩ := h
        replace h := lI_some h
        obtain ⟨x2', e2, h⟩ := h
        replace h := xe_some h
        obtain ⟨rfl, h⟩ := h
        exact xWx_ls (wx_X10_knownWord_10 X hi hroom hE fu _ ih fu s' x1' x2' M h) (List.forall_mem_cons.mpr ⟨e0, (List.forall_mem_cons.mpr ⟨e1, (List.forall_mem_cons.mpr ⟨e2, (fun _ h => nomatch h)⟩)⟩)⟩)

set_option maxRecDepth 100000 in
theorem wx_X10_knownWord (X : xCtx p R S0 m ag c0 D cA A0 sA 3 cX10_knownWord RX10 (.code yX10_knownWord cX10_knownWord 3 (some .int) :: xG) 0 0) (hi : meth.name = yX10_knownWord.name) (hroom : 6 + 2 ≤ R.frames ∧ 60 * (6 + 2) ≤ R.locals) {rr : Int32 × xM} (hE : xEnd l D cA sA cX10_knownWord 3 (some .int) R 0 0 (some (.inl rr.1)) rr.2 p e S0 m ag below meth c0 A0 M0 ad0 Z) (fu : Nat) (s : Nat) (M : xM) (h : F_X10_knownWord fu s M = some rr) : xWx p l e R S0 m ag below meth c0 D cA A0 sA M0 ad0 3 Z 0 0 0 0 0 [(0, .inr (.inr (10, some s)))] [] M := by
  rw [← q_X10_knownWord fu s M] at h
  have hT : ∀ w ∈ xG, w ∈ (Cond.code yX10_knownWord cX10_knownWord 3 (some .int) :: xG) := fun w hw => List.mem_cons_of_mem _ hw
  refine xrun_sound (nst := 0) (isInit := false) (kd := kdX10) X (xcls_mono hT xclsG) (xpool_mono hT plX10) (fun z => by cases z) (fun idx v hf => xkoE_mono hT (koX10_ok _ (xfind_mem hf))) (xents (ca := _) ?_) (endI hE).1 (endI hE).2 (xcuts (cu := _) ?_) pr_X10_knownWord.1 pr_X10_knownWord.2 _ _ _ _ _ _ _ _ (xat_ok pr_X10_knownWord.1 pr_X10_knownWord.2).1 (xat_ok pr_X10_knownWord.1 pr_X10_knownWord.2).2.1 (xat_ok pr_X10_knownWord.1 pr_X10_knownWord.2).2.2 h
  · exact (fun _ h => nomatch h)
  · refine (List.forall_mem_cons.mpr ⟨?_, (fun _ h => nomatch h)⟩)
    · intro bc bs ls st M h
      replace h := xz_some h
      obtain ⟨rfl, rfl, h⟩ := h
      replace h := lR_some h
      obtain ⟨o, e0, h⟩ := h
      replace h := bd_some h
      obtain ⟨s', rfl, h⟩ := h
      replace h := lI_some h
      obtain ⟨x1', e1, h⟩ := h
      replace h := xe_some h
      obtain ⟨rfl, h⟩ := h
      exact xWx_ls (wx_X10_knownWord_2 X hi hroom hE fu fu s' x1' M h) (List.forall_mem_cons.mpr ⟨e0, (List.forall_mem_cons.mpr ⟨e1, (fun _ h => nomatch h)⟩)⟩)

theorem ok_X10_knownWord (l : Launch) (D : va_G) (cA : Nat → ClassId) (sA : Nat → Nat) (fu : Nat) (s : Nat) (M : xM) {rr : Int32 × xM} (h : F_X10_knownWord fu s M = some rr) : xMet l D cA sA yX10_knownWord cX10_knownWord 3 (some .int) xG (6 + 1) 0 0 [.inr (.inr (10, some s))] M (some (.inl rr.1)) rr.2 :=
  xmet_of (by decide +kernel) (Nat.le_of_ble_eq_true rfl) (fun p e s1 m ag below meth c0 A0 ad0 Z X hn hE => wx_X10_knownWord X hn ⟨Nat.le_refl _, Nat.le_refl _⟩ hE fu s M h)
theorem hw_X10_knownWord (l : Launch) (D : va_G) (cA : Nat → ClassId) (sA : Nat → Nat) (fu : Nat) {ρ : Type} {r0 : ρ} (kd1 : Nat) : ∀ (as : List xV) (M : xM) (k : Option xV → xM → Option ρ), w_X10_knownWord fu as M k = some r0 → ∃ v M', xMet l D cA sA yX10_knownWord cX10_knownWord 3 (some .int) xG (6 + 1) 0 0 as M v M' ∧ k v M' = some r0 ∧ (kd1 ≠ 2 → ∃ a as', as = .inr (.inr (10, some a)) :: as') := by
  intro as M k h
  unfold w_X10_knownWord at h
  replace h := pR_some h
  obtain ⟨o, as1, rfl, h⟩ := h
  replace h := bd_some h
  obtain ⟨s, rfl, h⟩ := h
  replace h := xe_some h
  obtain ⟨rfl, h⟩ := h
  obtain ⟨p1, hp, h⟩ := Option.bind_eq_some_iff.mp h
  exact ⟨_, _, ok_X10_knownWord l D cA sA fu s M hp, h, fun _ => ⟨_, _, rfl⟩⟩
theorem lk_X10_67 : xLink xG RX10 67 0 yX10_knownWord 0 := ⟨Or.inl (xg 753 (by decide +kernel) (by decide +kernel)), (xg 755 (by decide +kernel) (by decide +kernel)), (xg 3 (by decide +kernel) (by decide +kernel)), (xg 129 (by decide +kernel) (by decide +kernel)), ⟨10, by decide, TX10, 10, rfl⟩⟩
theorem lk_X10_50 : xLink xG RX10 50 0 yX10_readWord 0 := ⟨Or.inl (xg 658 (by decide +kernel) (by decide +kernel)), (xg 660 (by decide +kernel) (by decide +kernel)), (xg 1 (by decide +kernel) (by decide +kernel)), (xg 129 (by decide +kernel) (by decide +kernel)), ⟨10, by decide, TX10, 10, rfl⟩⟩
theorem lk_X10_56 : xLink xG RX10 56 0 yX10_readNumber 0 := ⟨Or.inl (xg 666 (by decide +kernel) (by decide +kernel)), (xg 668 (by decide +kernel) (by decide +kernel)), (xg 2 (by decide +kernel) (by decide +kernel)), (xg 129 (by decide +kernel) (by decide +kernel)), ⟨10, by decide, TX10, 10, rfl⟩⟩
theorem cd_X10_next : Cond.code yX10_next cX10_next 1 none ∈ xG := (xg 654 (by decide +kernel) (by decide +kernel))
theorem pr_X10_next : (∀ e ∈ pX10_next, xrow cX10_next 1 kdX10 flX10 0 false RX10 e) ∧ xnext pX10_next = true := xrows (by decide +kernel)
set_option maxRecDepth 100000 in
theorem wx_X10_next_190 (X : xCtx p R S0 m ag c0 D cA A0 sA 1 cX10_next RX10 (.code yX10_next cX10_next 1 none :: xG) 0 0) (hi : meth.name = yX10_next.name) (hroom : 7 + 2 ≤ R.frames ∧ 60 * (7 + 2) ≤ R.locals) {rr : xM} (hE : xEnd l D cA sA cX10_next 1 none R 0 0 none rr p e S0 m ag below meth c0 A0 M0 ad0 Z) (fu : Nat) (s : Nat) (M : xM) (h : J_X10_next_190 fu s M = some rr) : xWx p l e R S0 m ag below meth c0 D cA A0 sA M0 ad0 1 Z 0 0 190 0 0 [(0, .inr (.inr (10, some s)))] [] M := by
  rw [← q_X10_next_190 fu s M] at h
  have hT : ∀ w ∈ xG, w ∈ (Cond.code yX10_next cX10_next 1 none :: xG) := fun w hw => List.mem_cons_of_mem _ hw
  refine xrun_sound (nst := 0) (isInit := false) (kd := kdX10) X (xcls_mono hT xclsG) (xpool_mono hT plX10) (fun z => by cases z) (fun idx v hf => xkoE_mono hT (koX10_ok _ (xfind_mem hf))) (xents (ca := _) ?_) (endV hE).1 (endV hE).2 (xcuts (cu := _) ?_) pr_X10_next.1 pr_X10_next.2 _ _ _ _ _ _ _ _ (xat_ok pr_X10_next.1 pr_X10_next.2).1 (xat_ok pr_X10_next.1 pr_X10_next.2).2.1 (xat_ok pr_X10_next.1 pr_X10_next.2).2.2 h
  · exact (List.forall_mem_cons.mpr ⟨(xent_met X (ci := 10) hT cd_X10_knownWord lk_X10_67 rfl (by decide) rfl (by decide +kernel) (fun z => absurd z (by decide)) (hw_X10_knownWord l D cA sA fu 0) (fun _ => ⟨by decide, fun _ => ⟨TX10, 10, rfl⟩⟩) (by constructor <;> omega) (by decide)), (fun _ h => nomatch h)⟩)
  · exact (fun _ h => nomatch h)

set_option maxRecDepth 100000 in
theorem wx_X10_next_60 (X : xCtx p R S0 m ag c0 D cA A0 sA 1 cX10_next RX10 (.code yX10_next cX10_next 1 none :: xG) 0 0) (hi : meth.name = yX10_next.name) (hroom : 7 + 2 ≤ R.frames ∧ 60 * (7 + 2) ≤ R.locals) {rr : xM} (hE : xEnd l D cA sA cX10_next 1 none R 0 0 none rr p e S0 m ag below meth c0 A0 M0 ad0 Z) (fu : Nat) (s : Nat) (M : xM) (h : J_X10_next_60 fu s M = some rr) : xWx p l e R S0 m ag below meth c0 D cA A0 sA M0 ad0 1 Z 0 0 60 0 0 [(0, .inr (.inr (10, some s)))] [] M := by
  rw [← q_X10_next_60 fu s M] at h
  have hT : ∀ w ∈ xG, w ∈ (Cond.code yX10_next cX10_next 1 none :: xG) := fun w hw => List.mem_cons_of_mem _ hw
  refine xrun_sound (nst := 0) (isInit := false) (kd := kdX10) X (xcls_mono hT xclsG) (xpool_mono hT plX10) (fun z => by cases z) (fun idx v hf => xkoE_mono hT (koX10_ok _ (xfind_mem hf))) (xents (ca := _) ?_) (endV hE).1 (endV hE).2 (xcuts (cu := _) ?_) pr_X10_next.1 pr_X10_next.2 _ _ _ _ _ _ _ _ (xat_ok pr_X10_next.1 pr_X10_next.2).1 (xat_ok pr_X10_next.1 pr_X10_next.2).2.1 (xat_ok pr_X10_next.1 pr_X10_next.2).2.2 h
  · exact (List.forall_mem_cons.mpr ⟨(xent_met X (ci := 10) hT cd_X10_isLetter lk_X10_46 rfl (by decide) rfl (by decide +kernel) (fun z => absurd z (by decide)) (hw_X10_isLetter l D cA sA fu 2 rfl) (fun z => absurd rfl z) (by constructor <;> omega) (by decide)), (List.forall_mem_cons.mpr ⟨(xent_met X (ci := 10) hT cd_X10_readWord lk_X10_50 rfl (by decide) rfl (by decide +kernel) (fun z => absurd z (by decide)) (hw_X10_readWord l D cA sA fu 0) (fun _ => ⟨by decide, fun _ => ⟨TX10, 10, rfl⟩⟩) (by constructor <;> omega) (by decide)), (List.forall_mem_cons.mpr ⟨(xent_met X (ci := 10) hT cd_X10_isDigit lk_X10_53 rfl (by decide) rfl (by decide +kernel) (fun z => absurd z (by decide)) (hw_X10_isDigit l D cA sA fu 2 rfl) (fun z => absurd rfl z) (by constructor <;> omega) (by decide)), (List.forall_mem_cons.mpr ⟨(xent_met X (ci := 10) hT cd_X10_readNumber lk_X10_56 rfl (by decide) rfl (by decide +kernel) (fun z => absurd z (by decide)) (hw_X10_readNumber l D cA sA fu 0) (fun _ => ⟨by decide, fun _ => ⟨TX10, 10, rfl⟩⟩) (by constructor <;> omega) (by decide)), (List.forall_mem_cons.mpr ⟨(xent_indexOf X hT (xg 671 (by decide +kernel) (by decide +kernel)) rfl (by omega) hroom), (fun _ h => nomatch h)⟩)⟩)⟩)⟩)⟩)
  · refine (List.forall_mem_cons.mpr ⟨?_, (fun _ h => nomatch h)⟩)
    · intro bc bs ls st M h
      replace h := xz_some h
      obtain ⟨rfl, rfl, h⟩ := h
      replace h := lR_some h
      obtain ⟨o, e0, h⟩ := h
      replace h := bd_some h
      obtain ⟨s', rfl, h⟩ := h
      replace h := xe_some h
      obtain ⟨rfl, h⟩ := h
      exact xWx_ls (wx_X10_next_190 X hi hroom hE fu s' M h) (List.forall_mem_cons.mpr ⟨e0, (fun _ h => nomatch h)⟩)

set_option maxRecDepth 100000 in
theorem wx_X10_next_8 (X : xCtx p R S0 m ag c0 D cA A0 sA 1 cX10_next RX10 (.code yX10_next cX10_next 1 none :: xG) 0 0) (hi : meth.name = yX10_next.name) (hroom : 7 + 2 ≤ R.frames ∧ 60 * (7 + 2) ≤ R.locals) {rr : xM} (hE : xEnd l D cA sA cX10_next 1 none R 0 0 none rr p e S0 m ag below meth c0 A0 M0 ad0 Z) (fu : Nat) : ∀ (n : Nat) (s : Nat) (M : xM), L_X10_next_8 fu n s M = some rr → xWx p l e R S0 m ag below meth c0 D cA A0 sA M0 ad0 1 Z 0 0 8 0 0 [(0, .inr (.inr (10, some s)))] [] M := by
  intro n
  induction n with
  | zero => intro s M h; cases h
  | succ n ih =>
    intro s M h
    rw [← q_X10_next_8 fu n s M] at h
    have hT : ∀ w ∈ xG, w ∈ (Cond.code yX10_next cX10_next 1 none :: xG) := fun w hw => List.mem_cons_of_mem _ hw
    refine xrun_sound (nst := 0) (isInit := false) (kd := kdX10) X (xcls_mono hT xclsG) (xpool_mono hT plX10) (fun z => by cases z) (fun idx v hf => xkoE_mono hT (koX10_ok _ (xfind_mem hf))) (xents (ca := _) ?_) (endV hE).1 (endV hE).2 (xcuts (cu := _) ?_) pr_X10_next.1 pr_X10_next.2 _ _ _ _ _ _ _ _ (xat_ok pr_X10_next.1 pr_X10_next.2).1 (xat_ok pr_X10_next.1 pr_X10_next.2).2.1 (xat_ok pr_X10_next.1 pr_X10_next.2).2.2 h
    · exact (fun _ h => nomatch h)
    · refine (List.forall_mem_cons.mpr ⟨?_, (List.forall_mem_cons.mpr ⟨?_, (fun _ h => nomatch h)⟩)⟩)
      · intro bc bs ls st M h
        replace h := xz_some h
        obtain ⟨rfl, rfl, h⟩ := h
        replace h := lR_some h
        obtain ⟨o, e0, h⟩ := h
        replace h := bd_some h
        obtain ⟨s', rfl, h⟩ := h
        replace h := xe_some h
        obtain ⟨rfl, h⟩ := h
        exact xWx_ls (ih s' M h) (List.forall_mem_cons.mpr ⟨e0, (fun _ h => nomatch h)⟩)
      · intro bc bs ls st M h
        replace h := xz_some h
        obtain ⟨rfl, rfl, h⟩ := h
        replace h := lR_some h
        obtain ⟨o, e0, h⟩ := h
        replace h := bd_some h
        obtain ⟨s', rfl, h⟩ := h
        replace h := xe_some h
        obtain ⟨rfl, h⟩ := h
        exact xWx_ls (wx_X10_next_60 X hi hroom hE fu s' M h) (List.forall_mem_cons.mpr ⟨e0, (fun _ h => nomatch h)⟩)

set_option maxRecDepth 100000 in
theorem wx_X10_next (X : xCtx p R S0 m ag c0 D cA A0 sA 1 cX10_next RX10 (.code yX10_next cX10_next 1 none :: xG) 0 0) (hi : meth.name = yX10_next.name) (hroom : 7 + 2 ≤ R.frames ∧ 60 * (7 + 2) ≤ R.locals) {rr : xM} (hE : xEnd l D cA sA cX10_next 1 none R 0 0 none rr p e S0 m ag below meth c0 A0 M0 ad0 Z) (fu : Nat) (s : Nat) (M : xM) (h : F_X10_next fu s M = some rr) : xWx p l e R S0 m ag below meth c0 D cA A0 sA M0 ad0 1 Z 0 0 0 0 0 [(0, .inr (.inr (10, some s)))] [] M := by
  rw [← q_X10_next fu s M] at h
  have hT : ∀ w ∈ xG, w ∈ (Cond.code yX10_next cX10_next 1 none :: xG) := fun w hw => List.mem_cons_of_mem _ hw
  refine xrun_sound (nst := 0) (isInit := false) (kd := kdX10) X (xcls_mono hT xclsG) (xpool_mono hT plX10) (fun z => by cases z) (fun idx v hf => xkoE_mono hT (koX10_ok _ (xfind_mem hf))) (xents (ca := _) ?_) (endV hE).1 (endV hE).2 (xcuts (cu := _) ?_) pr_X10_next.1 pr_X10_next.2 _ _ _ _ _ _ _ _ (xat_ok pr_X10_next.1 pr_X10_next.2).1 (xat_ok pr_X10_next.1 pr_X10_next.2).2.1 (xat_ok pr_X10_next.1 pr_X10_next.2).2.2 h
  · exact (fun _ h => nomatch h)
  · refine (List.forall_mem_cons.mpr ⟨?_, (fun _ h => nomatch h)⟩)
    · intro bc bs ls st M h
      replace h := xz_some h
      obtain ⟨rfl, rfl, h⟩ := h
      replace h := lR_some h
      obtain ⟨o, e0, h⟩ := h
      replace h := bd_some h
      obtain ⟨s', rfl, h⟩ := h
      replace h := xe_some h
      obtain ⟨rfl, h⟩ := h
      exact xWx_ls (wx_X10_next_8 X hi hroom hE fu fu s' M h) (List.forall_mem_cons.mpr ⟨e0, (fun _ h => nomatch h)⟩)

theorem ok_X10_next (l : Launch) (D : va_G) (cA : Nat → ClassId) (sA : Nat → Nat) (fu : Nat) (s : Nat) (M : xM) {rr : xM} (h : F_X10_next fu s M = some rr) : xMet l D cA sA yX10_next cX10_next 1 none xG (7 + 1) 0 0 [.inr (.inr (10, some s))] M none rr :=
  xmet_of (by decide +kernel) (Nat.le_of_ble_eq_true rfl) (fun p e s1 m ag below meth c0 A0 ad0 Z X hn hE => wx_X10_next X hn ⟨Nat.le_refl _, Nat.le_refl _⟩ hE fu s M h)
theorem hw_X10_next (l : Launch) (D : va_G) (cA : Nat → ClassId) (sA : Nat → Nat) (fu : Nat) {ρ : Type} {r0 : ρ} (kd1 : Nat) : ∀ (as : List xV) (M : xM) (k : Option xV → xM → Option ρ), w_X10_next fu as M k = some r0 → ∃ v M', xMet l D cA sA yX10_next cX10_next 1 none xG (7 + 1) 0 0 as M v M' ∧ k v M' = some r0 ∧ (kd1 ≠ 2 → ∃ a as', as = .inr (.inr (10, some a)) :: as') := by
  intro as M k h
  unfold w_X10_next at h
  replace h := pR_some h
  obtain ⟨o, as1, rfl, h⟩ := h
  replace h := bd_some h
  obtain ⟨s, rfl, h⟩ := h
  replace h := xe_some h
  obtain ⟨rfl, h⟩ := h
  obtain ⟨p1, hp, h⟩ := Option.bind_eq_some_iff.mp h
  exact ⟨_, _, ok_X10_next l D cA sA fu s M hp, h, fun _ => ⟨_, _, rfl⟩⟩
theorem lk_X10_27 : xLink xG RX10 27 0 yX10_next 0 := ⟨Or.inl (xg 651 (by decide +kernel) (by decide +kernel)), (xg 652 (by decide +kernel) (by decide +kernel)), (xg 653 (by decide +kernel) (by decide +kernel)), (xg 129 (by decide +kernel) (by decide +kernel)), ⟨10, by decide, TX10, 10, rfl⟩⟩
theorem cd_X10_begin : Cond.code yX10_begin cX10_begin 1 none ∈ xG := (xg 650 (by decide +kernel) (by decide +kernel))
theorem pr_X10_begin : (∀ e ∈ pX10_begin, xrow cX10_begin 1 kdX10 flX10 0 false RX10 e) ∧ xnext pX10_begin = true := xrows (by decide +kernel)
set_option maxRecDepth 100000 in
theorem wx_X10_begin (X : xCtx p R S0 m ag c0 D cA A0 sA 1 cX10_begin RX10 (.code yX10_begin cX10_begin 1 none :: xG) 0 0) (hi : meth.name = yX10_begin.name) (hroom : 8 + 2 ≤ R.frames ∧ 60 * (8 + 2) ≤ R.locals) {rr : xM} (hE : xEnd l D cA sA cX10_begin 1 none R 0 0 none rr p e S0 m ag below meth c0 A0 M0 ad0 Z) (fu : Nat) (s : Nat) (M : xM) (h : F_X10_begin fu s M = some rr) : xWx p l e R S0 m ag below meth c0 D cA A0 sA M0 ad0 1 Z 0 0 0 0 0 [(0, .inr (.inr (10, some s)))] [] M := by
  rw [← q_X10_begin fu s M] at h
  have hT : ∀ w ∈ xG, w ∈ (Cond.code yX10_begin cX10_begin 1 none :: xG) := fun w hw => List.mem_cons_of_mem _ hw
  refine xrun_sound (nst := 0) (isInit := false) (kd := kdX10) X (xcls_mono hT xclsG) (xpool_mono hT plX10) (fun z => by cases z) (fun idx v hf => xkoE_mono hT (koX10_ok _ (xfind_mem hf))) (xents (ca := _) ?_) (endV hE).1 (endV hE).2 (xcuts (cu := _) ?_) pr_X10_begin.1 pr_X10_begin.2 _ _ _ _ _ _ _ _ (xat_ok pr_X10_begin.1 pr_X10_begin.2).1 (xat_ok pr_X10_begin.1 pr_X10_begin.2).2.1 (xat_ok pr_X10_begin.1 pr_X10_begin.2).2.2 h
  · exact (List.forall_mem_cons.mpr ⟨(xent_met X (ci := 10) hT cd_X10_next lk_X10_27 rfl (by decide) rfl (by decide +kernel) (fun z => absurd z (by decide)) (hw_X10_next l D cA sA fu 0) (fun _ => ⟨by decide, fun _ => ⟨TX10, 10, rfl⟩⟩) (by constructor <;> omega) (by decide)), (fun _ h => nomatch h)⟩)
  · exact (fun _ h => nomatch h)

theorem ok_X10_begin (l : Launch) (D : va_G) (cA : Nat → ClassId) (sA : Nat → Nat) (fu : Nat) (s : Nat) (M : xM) {rr : xM} (h : F_X10_begin fu s M = some rr) : xMet l D cA sA yX10_begin cX10_begin 1 none xG (8 + 1) 0 0 [.inr (.inr (10, some s))] M none rr :=
  xmet_of (by decide +kernel) (Nat.le_of_ble_eq_true rfl) (fun p e s1 m ag below meth c0 A0 ad0 Z X hn hE => wx_X10_begin X hn ⟨Nat.le_refl _, Nat.le_refl _⟩ hE fu s M h)
theorem hw_X10_begin (l : Launch) (D : va_G) (cA : Nat → ClassId) (sA : Nat → Nat) (fu : Nat) {ρ : Type} {r0 : ρ} (kd1 : Nat) : ∀ (as : List xV) (M : xM) (k : Option xV → xM → Option ρ), w_X10_begin fu as M k = some r0 → ∃ v M', xMet l D cA sA yX10_begin cX10_begin 1 none xG (8 + 1) 0 0 as M v M' ∧ k v M' = some r0 ∧ (kd1 ≠ 2 → ∃ a as', as = .inr (.inr (10, some a)) :: as') := by
  intro as M k h
  unfold w_X10_begin at h
  replace h := pR_some h
  obtain ⟨o, as1, rfl, h⟩ := h
  replace h := bd_some h
  obtain ⟨s, rfl, h⟩ := h
  replace h := xe_some h
  obtain ⟨rfl, h⟩ := h
  obtain ⟨p1, hp, h⟩ := Option.bind_eq_some_iff.mp h
  exact ⟨_, _, ok_X10_begin l D cA sA fu s M hp, h, fun _ => ⟨_, _, rfl⟩⟩
theorem cd_X10_fail : Cond.code yX10_fail cX10_fail 2 (some .boolean) ∈ xG := (xg 793 (by decide +kernel) (by decide +kernel))
theorem pr_X10_fail : (∀ e ∈ pX10_fail, xrow cX10_fail 2 kdX10 flX10 0 false RX10 e) ∧ xnext pX10_fail = true := xrows (by decide +kernel)
set_option maxRecDepth 100000 in
theorem wx_X10_fail (X : xCtx p R S0 m ag c0 D cA A0 sA 2 cX10_fail RX10 (.code yX10_fail cX10_fail 2 (some .boolean) :: xG) 0 0) (hi : meth.name = yX10_fail.name) (hroom : 0 + 2 ≤ R.frames ∧ 60 * (0 + 2) ≤ R.locals) {rr : Int32 × xM} (hE : xEnd l D cA sA cX10_fail 2 (some .boolean) R 0 0 (some (.inl rr.1)) rr.2 p e S0 m ag below meth c0 A0 M0 ad0 Z) (fu : Nat) (s : Nat) (x1 : Int32) (M : xM) (h : F_X10_fail fu s x1 M = some rr) : xWx p l e R S0 m ag below meth c0 D cA A0 sA M0 ad0 2 Z 0 0 0 0 0 [(0, .inr (.inr (10, some s))), (1, .inl x1)] [] M := by
  rw [← q_X10_fail fu s x1 M] at h
  have hT : ∀ w ∈ xG, w ∈ (Cond.code yX10_fail cX10_fail 2 (some .boolean) :: xG) := fun w hw => List.mem_cons_of_mem _ hw
  refine xrun_sound (nst := 0) (isInit := false) (kd := kdX10) X (xcls_mono hT xclsG) (xpool_mono hT plX10) (fun z => by cases z) (fun idx v hf => xkoE_mono hT (koX10_ok _ (xfind_mem hf))) (xents (ca := _) ?_) (endZ hE).1 (endZ hE).2 (xcuts (cu := _) ?_) pr_X10_fail.1 pr_X10_fail.2 _ _ _ _ _ _ _ _ (xat_ok pr_X10_fail.1 pr_X10_fail.2).1 (xat_ok pr_X10_fail.1 pr_X10_fail.2).2.1 (xat_ok pr_X10_fail.1 pr_X10_fail.2).2.2 h
  · exact (fun _ h => nomatch h)
  · exact (fun _ h => nomatch h)

theorem ok_X10_fail (l : Launch) (D : va_G) (cA : Nat → ClassId) (sA : Nat → Nat) (fu : Nat) (s : Nat) (x1 : Int32) (M : xM) {rr : Int32 × xM} (h : F_X10_fail fu s x1 M = some rr) : xMet l D cA sA yX10_fail cX10_fail 2 (some .boolean) xG (0 + 1) 0 0 [.inr (.inr (10, some s)), .inl x1] M (some (.inl rr.1)) rr.2 :=
  xmet_of (by decide +kernel) (Nat.le_of_ble_eq_true rfl) (fun p e s1 m ag below meth c0 A0 ad0 Z X hn hE => wx_X10_fail X hn ⟨Nat.le_refl _, Nat.le_refl _⟩ hE fu s x1 M h)
theorem hw_X10_fail (l : Launch) (D : va_G) (cA : Nat → ClassId) (sA : Nat → Nat) (fu : Nat) {ρ : Type} {r0 : ρ} (kd1 : Nat) : ∀ (as : List xV) (M : xM) (k : Option xV → xM → Option ρ), w_X10_fail fu as M k = some r0 → ∃ v M', xMet l D cA sA yX10_fail cX10_fail 2 (some .boolean) xG (0 + 1) 0 0 as M v M' ∧ k v M' = some r0 ∧ (kd1 ≠ 2 → ∃ a as', as = .inr (.inr (10, some a)) :: as') := by
  intro as M k h
  unfold w_X10_fail at h
  replace h := pR_some h
  obtain ⟨o, as1, rfl, h⟩ := h
  replace h := bd_some h
  obtain ⟨s, rfl, h⟩ := h
  replace h := pI_some h
  obtain ⟨x1, as1, rfl, h⟩ := h
  replace h := xe_some h
  obtain ⟨rfl, h⟩ := h
  obtain ⟨p1, hp, h⟩ := Option.bind_eq_some_iff.mp h
  exact ⟨_, _, ok_X10_fail l D cA sA fu s x1 M hp, h, fun _ => ⟨_, _, rfl⟩⟩
theorem cd_X10_init : Cond.code yX10_init cX10_init 1 none ∈ xG := (xg 165 (by decide +kernel) (by decide +kernel))
theorem pr_X10_init : (∀ e ∈ pX10_init, xrow cX10_init 1 kdX10 flX10 0 true RX10 e) ∧ xnext pX10_init = true := xrows (by decide +kernel)
set_option maxRecDepth 100000 in
theorem wx_X10_init (X : xCtx p R S0 m ag c0 D cA A0 sA 1 cX10_init RX10 (.code yX10_init cX10_init 1 none :: xG) 1 1000) (hi : meth.name = yX10_init.name) (hroom : 0 + 2 ≤ R.frames ∧ 60 * (0 + 2) ≤ R.locals) {rr : xM} (hE : xEnd l D cA sA cX10_init 1 none R 1 1000 none rr p e S0 m ag below meth c0 A0 M0 ad0 Z) (fu : Nat) (s : Nat) (M : xM) (h : F_X10_init fu s M = some rr) : xWx p l e R S0 m ag below meth c0 D cA A0 sA M0 ad0 1 Z 1 1000 0 1 1000 [(0, .inr (.inr (10, some s)))] [] M := by
  rw [← q_X10_init fu s M] at h
  have hT : ∀ w ∈ xG, w ∈ (Cond.code yX10_init cX10_init 1 none :: xG) := fun w hw => List.mem_cons_of_mem _ hw
  refine xrun_sound (nst := 0) (isInit := true) (kd := kdX10) X (xcls_mono hT xclsG) (xpool_mono hT plX10) (fun _ => hi) (fun idx v hf => xkoE_mono hT (koX10_ok _ (xfind_mem hf))) (xents (ca := _) ?_) (endV hE).1 (endV hE).2 (xcuts (cu := _) ?_) pr_X10_init.1 pr_X10_init.2 _ _ _ _ _ _ _ _ (xat_ok pr_X10_init.1 pr_X10_init.2).1 (xat_ok pr_X10_init.1 pr_X10_init.2).2.1 (xat_ok pr_X10_init.1 pr_X10_init.2).2.2 h
  · exact (List.forall_mem_cons.mpr ⟨(xent_objInit X hT (xg 166 (by decide +kernel) (by decide +kernel)) (xg 159 (by decide +kernel) (by decide +kernel)) (xg 160 (by decide +kernel) (by decide +kernel)) rfl), (fun _ h => nomatch h)⟩)
  · exact (fun _ h => nomatch h)

theorem ok_X10_init (l : Launch) (D : va_G) (cA : Nat → ClassId) (sA : Nat → Nat) (fu : Nat) (s : Nat) (M : xM) {rr : xM} (h : F_X10_init fu s M = some rr) : xMet l D cA sA yX10_init cX10_init 1 none xG (0 + 1) 1 1000 [.inr (.inr (10, some s))] M none rr :=
  xmet_of (by decide +kernel) (Nat.le_of_ble_eq_true rfl) (fun p e s1 m ag below meth c0 A0 ad0 Z X hn hE => wx_X10_init X hn ⟨Nat.le_refl _, Nat.le_refl _⟩ hE fu s M h)
theorem hw_X10_init (l : Launch) (D : va_G) (cA : Nat → ClassId) (sA : Nat → Nat) (fu : Nat) {ρ : Type} {r0 : ρ} (kd1 : Nat) : ∀ (as : List xV) (M : xM) (k : Option xV → xM → Option ρ), w_X10_init fu as M k = some r0 → ∃ v M', xMet l D cA sA yX10_init cX10_init 1 none xG (0 + 1) 1 1000 as M v M' ∧ k v M' = some r0 ∧ (kd1 ≠ 2 → ∃ a as', as = .inr (.inr (10, some a)) :: as') := by
  intro as M k h
  unfold w_X10_init at h
  replace h := pR_some h
  obtain ⟨o, as1, rfl, h⟩ := h
  replace h := bd_some h
  obtain ⟨s, rfl, h⟩ := h
  replace h := xe_some h
  obtain ⟨rfl, h⟩ := h
  obtain ⟨p1, hp, h⟩ := Option.bind_eq_some_iff.mp h
  exact ⟨_, _, ok_X10_init l D cA sA fu s M hp, h, fun _ => ⟨_, _, rfl⟩⟩
theorem cd_X10_isFact : Cond.code yX10_isFact cX10_isFact 1 (some .boolean) ∈ xG := (xg 835 (by decide +kernel) (by decide +kernel))
theorem pr_X10_isFact : (∀ e ∈ pX10_isFact, xrow cX10_isFact 1 kdX10 flX10 0 false RX10 e) ∧ xnext pX10_isFact = true := xrows (by decide +kernel)
set_option maxRecDepth 100000 in
theorem wx_X10_isFact (X : xCtx p R S0 m ag c0 D cA A0 sA 1 cX10_isFact RX10 (.code yX10_isFact cX10_isFact 1 (some .boolean) :: xG) 0 0) (hi : meth.name = yX10_isFact.name) (hroom : 0 + 2 ≤ R.frames ∧ 60 * (0 + 2) ≤ R.locals) {rr : Int32 × xM} (hE : xEnd l D cA sA cX10_isFact 1 (some .boolean) R 0 0 (some (.inl rr.1)) rr.2 p e S0 m ag below meth c0 A0 M0 ad0 Z) (fu : Nat) (s : Nat) (M : xM) (h : F_X10_isFact fu s M = some rr) : xWx p l e R S0 m ag below meth c0 D cA A0 sA M0 ad0 1 Z 0 0 0 0 0 [(0, .inr (.inr (10, some s)))] [] M := by
  rw [← q_X10_isFact fu s M] at h
  have hT : ∀ w ∈ xG, w ∈ (Cond.code yX10_isFact cX10_isFact 1 (some .boolean) :: xG) := fun w hw => List.mem_cons_of_mem _ hw
  refine xrun_sound (nst := 0) (isInit := false) (kd := kdX10) X (xcls_mono hT xclsG) (xpool_mono hT plX10) (fun z => by cases z) (fun idx v hf => xkoE_mono hT (koX10_ok _ (xfind_mem hf))) (xents (ca := _) ?_) (endZ hE).1 (endZ hE).2 (xcuts (cu := _) ?_) pr_X10_isFact.1 pr_X10_isFact.2 _ _ _ _ _ _ _ _ (xat_ok pr_X10_isFact.1 pr_X10_isFact.2).1 (xat_ok pr_X10_isFact.1 pr_X10_isFact.2).2.1 (xat_ok pr_X10_isFact.1 pr_X10_isFact.2).2.2 h
  · exact (fun _ h => nomatch h)
  · exact (fun _ h => nomatch h)

theorem ok_X10_isFact (l : Launch) (D : va_G) (cA : Nat → ClassId) (sA : Nat → Nat) (fu : Nat) (s : Nat) (M : xM) {rr : Int32 × xM} (h : F_X10_isFact fu s M = some rr) : xMet l D cA sA yX10_isFact cX10_isFact 1 (some .boolean) xG (0 + 1) 0 0 [.inr (.inr (10, some s))] M (some (.inl rr.1)) rr.2 :=
  xmet_of (by decide +kernel) (Nat.le_of_ble_eq_true rfl) (fun p e s1 m ag below meth c0 A0 ad0 Z X hn hE => wx_X10_isFact X hn ⟨Nat.le_refl _, Nat.le_refl _⟩ hE fu s M h)
theorem hw_X10_isFact (l : Launch) (D : va_G) (cA : Nat → ClassId) (sA : Nat → Nat) (fu : Nat) {ρ : Type} {r0 : ρ} (kd1 : Nat) : ∀ (as : List xV) (M : xM) (k : Option xV → xM → Option ρ), w_X10_isFact fu as M k = some r0 → ∃ v M', xMet l D cA sA yX10_isFact cX10_isFact 1 (some .boolean) xG (0 + 1) 0 0 as M v M' ∧ k v M' = some r0 ∧ (kd1 ≠ 2 → ∃ a as', as = .inr (.inr (10, some a)) :: as') := by
  intro as M k h
  unfold w_X10_isFact at h
  replace h := pR_some h
  obtain ⟨o, as1, rfl, h⟩ := h
  replace h := bd_some h
  obtain ⟨s, rfl, h⟩ := h
  replace h := xe_some h
  obtain ⟨rfl, h⟩ := h
  obtain ⟨p1, hp, h⟩ := Option.bind_eq_some_iff.mp h
  exact ⟨_, _, ok_X10_isFact l D cA sA fu s M hp, h, fun _ => ⟨_, _, rfl⟩⟩
theorem cd_X10_isName : Cond.code yX10_isName cX10_isName 1 (some .boolean) ∈ xG := (xg 798 (by decide +kernel) (by decide +kernel))
theorem pr_X10_isName : (∀ e ∈ pX10_isName, xrow cX10_isName 1 kdX10 flX10 0 false RX10 e) ∧ xnext pX10_isName = true := xrows (by decide +kernel)
set_option maxRecDepth 100000 in
theorem wx_X10_isName (X : xCtx p R S0 m ag c0 D cA A0 sA 1 cX10_isName RX10 (.code yX10_isName cX10_isName 1 (some .boolean) :: xG) 0 0) (hi : meth.name = yX10_isName.name) (hroom : 0 + 2 ≤ R.frames ∧ 60 * (0 + 2) ≤ R.locals) {rr : Int32 × xM} (hE : xEnd l D cA sA cX10_isName 1 (some .boolean) R 0 0 (some (.inl rr.1)) rr.2 p e S0 m ag below meth c0 A0 M0 ad0 Z) (fu : Nat) (s : Nat) (M : xM) (h : F_X10_isName fu s M = some rr) : xWx p l e R S0 m ag below meth c0 D cA A0 sA M0 ad0 1 Z 0 0 0 0 0 [(0, .inr (.inr (10, some s)))] [] M := by
  rw [← q_X10_isName fu s M] at h
  have hT : ∀ w ∈ xG, w ∈ (Cond.code yX10_isName cX10_isName 1 (some .boolean) :: xG) := fun w hw => List.mem_cons_of_mem _ hw
  refine xrun_sound (nst := 0) (isInit := false) (kd := kdX10) X (xcls_mono hT xclsG) (xpool_mono hT plX10) (fun z => by cases z) (fun idx v hf => xkoE_mono hT (koX10_ok _ (xfind_mem hf))) (xents (ca := _) ?_) (endZ hE).1 (endZ hE).2 (xcuts (cu := _) ?_) pr_X10_isName.1 pr_X10_isName.2 _ _ _ _ _ _ _ _ (xat_ok pr_X10_isName.1 pr_X10_isName.2).1 (xat_ok pr_X10_isName.1 pr_X10_isName.2).2.1 (xat_ok pr_X10_isName.1 pr_X10_isName.2).2.2 h
  · exact (fun _ h => nomatch h)
  · exact (fun _ h => nomatch h)

theorem ok_X10_isName (l : Launch) (D : va_G) (cA : Nat → ClassId) (sA : Nat → Nat) (fu : Nat) (s : Nat) (M : xM) {rr : Int32 × xM} (h : F_X10_isName fu s M = some rr) : xMet l D cA sA yX10_isName cX10_isName 1 (some .boolean) xG (0 + 1) 0 0 [.inr (.inr (10, some s))] M (some (.inl rr.1)) rr.2 :=
  xmet_of (by decide +kernel) (Nat.le_of_ble_eq_true rfl) (fun p e s1 m ag below meth c0 A0 ad0 Z X hn hE => wx_X10_isName X hn ⟨Nat.le_refl _, Nat.le_refl _⟩ hE fu s M h)
theorem hw_X10_isName (l : Launch) (D : va_G) (cA : Nat → ClassId) (sA : Nat → Nat) (fu : Nat) {ρ : Type} {r0 : ρ} (kd1 : Nat) : ∀ (as : List xV) (M : xM) (k : Option xV → xM → Option ρ), w_X10_isName fu as M k = some r0 → ∃ v M', xMet l D cA sA yX10_isName cX10_isName 1 (some .boolean) xG (0 + 1) 0 0 as M v M' ∧ k v M' = some r0 ∧ (kd1 ≠ 2 → ∃ a as', as = .inr (.inr (10, some a)) :: as') := by
  intro as M k h
  unfold w_X10_isName at h
  replace h := pR_some h
  obtain ⟨o, as1, rfl, h⟩ := h
  replace h := bd_some h
  obtain ⟨s, rfl, h⟩ := h
  replace h := xe_some h
  obtain ⟨rfl, h⟩ := h
  obtain ⟨p1, hp, h⟩ := Option.bind_eq_some_iff.mp h
  exact ⟨_, _, ok_X10_isName l D cA sA fu s M hp, h, fun _ => ⟨_, _, rfl⟩⟩
theorem cd_X10_isSign : Cond.code yX10_isSign cX10_isSign 2 (some .boolean) ∈ xG := (xg 839 (by decide +kernel) (by decide +kernel))
theorem pr_X10_isSign : (∀ e ∈ pX10_isSign, xrow cX10_isSign 2 kdX10 flX10 0 false RX10 e) ∧ xnext pX10_isSign = true := xrows (by decide +kernel)
set_option maxRecDepth 100000 in
theorem wx_X10_isSign (X : xCtx p R S0 m ag c0 D cA A0 sA 2 cX10_isSign RX10 (.code yX10_isSign cX10_isSign 2 (some .boolean) :: xG) 0 0) (hi : meth.name = yX10_isSign.name) (hroom : 0 + 2 ≤ R.frames ∧ 60 * (0 + 2) ≤ R.locals) {rr : Int32 × xM} (hE : xEnd l D cA sA cX10_isSign 2 (some .boolean) R 0 0 (some (.inl rr.1)) rr.2 p e S0 m ag below meth c0 A0 M0 ad0 Z) (fu : Nat) (s : Nat) (x1 : Int32) (M : xM) (h : F_X10_isSign fu s x1 M = some rr) : xWx p l e R S0 m ag below meth c0 D cA A0 sA M0 ad0 2 Z 0 0 0 0 0 [(0, .inr (.inr (10, some s))), (1, .inl x1)] [] M := by
  rw [← q_X10_isSign fu s x1 M] at h
  have hT : ∀ w ∈ xG, w ∈ (Cond.code yX10_isSign cX10_isSign 2 (some .boolean) :: xG) := fun w hw => List.mem_cons_of_mem _ hw
  refine xrun_sound (nst := 0) (isInit := false) (kd := kdX10) X (xcls_mono hT xclsG) (xpool_mono hT plX10) (fun z => by cases z) (fun idx v hf => xkoE_mono hT (koX10_ok _ (xfind_mem hf))) (xents (ca := _) ?_) (endZ hE).1 (endZ hE).2 (xcuts (cu := _) ?_) pr_X10_isSign.1 pr_X10_isSign.2 _ _ _ _ _ _ _ _ (xat_ok pr_X10_isSign.1 pr_X10_isSign.2).1 (xat_ok pr_X10_isSign.1 pr_X10_isSign.2).2.1 (xat_ok pr_X10_isSign.1 pr_X10_isSign.2).2.2 h
  · exact (fun _ h => nomatch h)
  · exact (fun _ h => nomatch h)

theorem ok_X10_isSign (l : Launch) (D : va_G) (cA : Nat → ClassId) (sA : Nat → Nat) (fu : Nat) (s : Nat) (x1 : Int32) (M : xM) {rr : Int32 × xM} (h : F_X10_isSign fu s x1 M = some rr) : xMet l D cA sA yX10_isSign cX10_isSign 2 (some .boolean) xG (0 + 1) 0 0 [.inr (.inr (10, some s)), .inl x1] M (some (.inl rr.1)) rr.2 :=
  xmet_of (by decide +kernel) (Nat.le_of_ble_eq_true rfl) (fun p e s1 m ag below meth c0 A0 ad0 Z X hn hE => wx_X10_isSign X hn ⟨Nat.le_refl _, Nat.le_refl _⟩ hE fu s x1 M h)
theorem hw_X10_isSign (l : Launch) (D : va_G) (cA : Nat → ClassId) (sA : Nat → Nat) (fu : Nat) {ρ : Type} {r0 : ρ} (kd1 : Nat) : ∀ (as : List xV) (M : xM) (k : Option xV → xM → Option ρ), w_X10_isSign fu as M k = some r0 → ∃ v M', xMet l D cA sA yX10_isSign cX10_isSign 2 (some .boolean) xG (0 + 1) 0 0 as M v M' ∧ k v M' = some r0 ∧ (kd1 ≠ 2 → ∃ a as', as = .inr (.inr (10, some a)) :: as') := by
  intro as M k h
  unfold w_X10_isSign at h
  replace h := pR_some h
  obtain ⟨o, as1, rfl, h⟩ := h
  replace h := bd_some h
  obtain ⟨s, rfl, h⟩ := h
  replace h := pI_some h
  obtain ⟨x1, as1, rfl, h⟩ := h
  replace h := xe_some h
  obtain ⟨rfl, h⟩ := h
  obtain ⟨p1, hp, h⟩ := Option.bind_eq_some_iff.mp h
  exact ⟨_, _, ok_X10_isSign l D cA sA fu s x1 M hp, h, fun _ => ⟨_, _, rfl⟩⟩
theorem lk_X10_89 : xLink xG RX10 89 0 yX10_fail 1 := ⟨Or.inl (xg 807 (by decide +kernel) (by decide +kernel)), (xg 791 (by decide +kernel) (by decide +kernel)), (xg 792 (by decide +kernel) (by decide +kernel)), (xg 129 (by decide +kernel) (by decide +kernel)), ⟨10, by decide, TX10, 10, rfl⟩⟩
theorem cd_X10_takeNumber : Cond.code yX10_takeNumber cX10_takeNumber 4 (some .int) ∈ xG := (xg 806 (by decide +kernel) (by decide +kernel))
theorem pr_X10_takeNumber : (∀ e ∈ pX10_takeNumber, xrow cX10_takeNumber 4 kdX10 flX10 0 false RX10 e) ∧ xnext pX10_takeNumber = true := xrows (by decide +kernel)
set_option maxRecDepth 100000 in
theorem wx_X10_takeNumber (X : xCtx p R S0 m ag c0 D cA A0 sA 4 cX10_takeNumber RX10 (.code yX10_takeNumber cX10_takeNumber 4 (some .int) :: xG) 0 0) (hi : meth.name = yX10_takeNumber.name) (hroom : 8 + 2 ≤ R.frames ∧ 60 * (8 + 2) ≤ R.locals) {rr : Int32 × xM} (hE : xEnd l D cA sA cX10_takeNumber 4 (some .int) R 0 0 (some (.inl rr.1)) rr.2 p e S0 m ag below meth c0 A0 M0 ad0 Z) (fu : Nat) (s : Nat) (x1 : Int32) (x2 : Int32) (M : xM) (h : F_X10_takeNumber fu s x1 x2 M = some rr) : xWx p l e R S0 m ag below meth c0 D cA A0 sA M0 ad0 4 Z 0 0 0 0 0 [(0, .inr (.inr (10, some s))), (1, .inl x1), (2, .inl x2)] [] M := by
  rw [← q_X10_takeNumber fu s x1 x2 M] at h
  have hT : ∀ w ∈ xG, w ∈ (Cond.code yX10_takeNumber cX10_takeNumber 4 (some .int) :: xG) := fun w hw => List.mem_cons_of_mem _ hw
  refine xrun_sound (nst := 0) (isInit := false) (kd := kdX10) X (xcls_mono hT xclsG) (xpool_mono hT plX10) (fun z => by cases z) (fun idx v hf => xkoE_mono hT (koX10_ok _ (xfind_mem hf))) (xents (ca := _) ?_) (endI hE).1 (endI hE).2 (xcuts (cu := _) ?_) pr_X10_takeNumber.1 pr_X10_takeNumber.2 _ _ _ _ _ _ _ _ (xat_ok pr_X10_takeNumber.1 pr_X10_takeNumber.2).1 (xat_ok pr_X10_takeNumber.1 pr_X10_takeNumber.2).2.1 (xat_ok pr_X10_takeNumber.1 pr_X10_takeNumber.2).2.2 h
  · exact (List.forall_mem_cons.mpr ⟨(xent_met X (ci := 10) hT cd_X10_next lk_X10_27 rfl (by decide) rfl (by decide +kernel) (fun z => absurd z (by decide)) (hw_X10_next l D cA sA fu 0) (fun _ => ⟨by decide, fun _ => ⟨TX10, 10, rfl⟩⟩) (by constructor <;> omega) (by decide)), (List.forall_mem_cons.mpr ⟨(xent_met X (ci := 10) hT cd_X10_fail lk_X10_89 rfl (by decide) rfl (by decide +kernel) (fun z => absurd z (by decide)) (hw_X10_fail l D cA sA fu 0) (fun _ => ⟨by decide, fun _ => ⟨TX10, 10, rfl⟩⟩) (by constructor <;> omega) (by decide)), (fun _ h => nomatch h)⟩)⟩)
  · exact (fun _ h => nomatch h)

theorem ok_X10_takeNumber (l : Launch) (D : va_G) (cA : Nat → ClassId) (sA : Nat → Nat) (fu : Nat) (s : Nat) (x1 : Int32) (x2 : Int32) (M : xM) {rr : Int32 × xM} (h : F_X10_takeNumber fu s x1 x2 M = some rr) : xMet l D cA sA yX10_takeNumber cX10_takeNumber 4 (some .int) xG (8 + 1) 0 0 [.inr (.inr (10, some s)), .inl x1, .inl x2] M (some (.inl rr.1)) rr.2 :=
  xmet_of (by decide +kernel) (Nat.le_of_ble_eq_true rfl) (fun p e s1 m ag below meth c0 A0 ad0 Z X hn hE => wx_X10_takeNumber X hn ⟨Nat.le_refl _, Nat.le_refl _⟩ hE fu s x1 x2 M h)
theorem hw_X10_takeNumber (l : Launch) (D : va_G) (cA : Nat → ClassId) (sA : Nat → Nat) (fu : Nat) {ρ : Type} {r0 : ρ} (kd1 : Nat) : ∀ (as : List xV) (M : xM) (k : Option xV → xM → Option ρ), w_X10_takeNumber fu as M k = some r0 → ∃ v M', xMet l D cA sA yX10_takeNumber cX10_takeNumber 4 (some .int) xG (8 + 1) 0 0 as M v M' ∧ k v M' = some r0 ∧ (kd1 ≠ 2 → ∃ a as', as = .inr (.inr (10, some a)) :: as') := by
  intro as M k h
  unfold w_X10_takeNumber at h
  replace h := pR_some h
  obtain ⟨o, as1, rfl, h⟩ := h
  replace h := bd_some h
  obtain ⟨s, rfl, h⟩ := h
  replace h := pI_some h
  obtain ⟨x1, as1, rfl, h⟩ := h
  replace h := pI_some h
  obtain ⟨x2, as1, rfl, h⟩ := h
  replace h := xe_some h
  obtain ⟨rfl, h⟩ := h
  obtain ⟨p1, hp, h⟩ := Option.bind_eq_some_iff.mp h
  exact ⟨_, _, ok_X10_takeNumber l D cA sA fu s x1 x2 M hp, h, fun _ => ⟨_, _, rfl⟩⟩
theorem lk_X10_86 : xLink xG RX10 86 0 yX10_isSign 1 := ⟨Or.inl (xg 850 (by decide +kernel) (by decide +kernel)), (xg 837 (by decide +kernel) (by decide +kernel)), (xg 838 (by decide +kernel) (by decide +kernel)), (xg 129 (by decide +kernel) (by decide +kernel)), ⟨10, by decide, TX10, 10, rfl⟩⟩
theorem cd_X10_takeSign : Cond.code yX10_takeSign cX10_takeSign 2 (some .boolean) ∈ xG := (xg 849 (by decide +kernel) (by decide +kernel))
theorem pr_X10_takeSign : (∀ e ∈ pX10_takeSign, xrow cX10_takeSign 2 kdX10 flX10 0 false RX10 e) ∧ xnext pX10_takeSign = true := xrows (by decide +kernel)
set_option maxRecDepth 100000 in
theorem wx_X10_takeSign (X : xCtx p R S0 m ag c0 D cA A0 sA 2 cX10_takeSign RX10 (.code yX10_takeSign cX10_takeSign 2 (some .boolean) :: xG) 0 0) (hi : meth.name = yX10_takeSign.name) (hroom : 8 + 2 ≤ R.frames ∧ 60 * (8 + 2) ≤ R.locals) {rr : Int32 × xM} (hE : xEnd l D cA sA cX10_takeSign 2 (some .boolean) R 0 0 (some (.inl rr.1)) rr.2 p e S0 m ag below meth c0 A0 M0 ad0 Z) (fu : Nat) (s : Nat) (x1 : Int32) (M : xM) (h : F_X10_takeSign fu s x1 M = some rr) : xWx p l e R S0 m ag below meth c0 D cA A0 sA M0 ad0 2 Z 0 0 0 0 0 [(0, .inr (.inr (10, some s))), (1, .inl x1)] [] M := by
  rw [← q_X10_takeSign fu s x1 M] at h
  have hT : ∀ w ∈ xG, w ∈ (Cond.code yX10_takeSign cX10_takeSign 2 (some .boolean) :: xG) := fun w hw => List.mem_cons_of_mem _ hw
  refine xrun_sound (nst := 0) (isInit := false) (kd := kdX10) X (xcls_mono hT xclsG) (xpool_mono hT plX10) (fun z => by cases z) (fun idx v hf => xkoE_mono hT (koX10_ok _ (xfind_mem hf))) (xents (ca := _) ?_) (endZ hE).1 (endZ hE).2 (xcuts (cu := _) ?_) pr_X10_takeSign.1 pr_X10_takeSign.2 _ _ _ _ _ _ _ _ (xat_ok pr_X10_takeSign.1 pr_X10_takeSign.2).1 (xat_ok pr_X10_takeSign.1 pr_X10_takeSign.2).2.1 (xat_ok pr_X10_takeSign.1 pr_X10_takeSign.2).2.2 h
  · exact (List.forall_mem_cons.mpr ⟨(xent_met X (ci := 10) hT cd_X10_next lk_X10_27 rfl (by decide) rfl (by decide +kernel) (fun z => absurd z (by decide)) (hw_X10_next l D cA sA fu 0) (fun _ => ⟨by decide, fun _ => ⟨TX10, 10, rfl⟩⟩) (by constructor <;> omega) (by decide)), (List.forall_mem_cons.mpr ⟨(xent_met X (ci := 10) hT cd_X10_isSign lk_X10_86 rfl (by decide) rfl (by decide +kernel) (fun z => absurd z (by decide)) (hw_X10_isSign l D cA sA fu 0) (fun _ => ⟨by decide, fun _ => ⟨TX10, 10, rfl⟩⟩) (by constructor <;> omega) (by decide)), (List.forall_mem_cons.mpr ⟨(xent_met X (ci := 10) hT cd_X10_fail lk_X10_89 rfl (by decide) rfl (by decide +kernel) (fun z => absurd z (by decide)) (hw_X10_fail l D cA sA fu 0) (fun _ => ⟨by decide, fun _ => ⟨TX10, 10, rfl⟩⟩) (by constructor <;> omega) (by decide)), (fun _ h => nomatch h)⟩)⟩)⟩)
  · exact (fun _ h => nomatch h)

theorem ok_X10_takeSign (l : Launch) (D : va_G) (cA : Nat → ClassId) (sA : Nat → Nat) (fu : Nat) (s : Nat) (x1 : Int32) (M : xM) {rr : Int32 × xM} (h : F_X10_takeSign fu s x1 M = some rr) : xMet l D cA sA yX10_takeSign cX10_takeSign 2 (some .boolean) xG (8 + 1) 0 0 [.inr (.inr (10, some s)), .inl x1] M (some (.inl rr.1)) rr.2 :=
  xmet_of (by decide +kernel) (Nat.le_of_ble_eq_true rfl) (fun p e s1 m ag below meth c0 A0 ad0 Z X hn hE => wx_X10_takeSign X hn ⟨Nat.le_refl _, Nat.le_refl _⟩ hE fu s x1 M h)
theorem hw_X10_takeSign (l : Launch) (D : va_G) (cA : Nat → ClassId) (sA : Nat → Nat) (fu : Nat) {ρ : Type} {r0 : ρ} (kd1 : Nat) : ∀ (as : List xV) (M : xM) (k : Option xV → xM → Option ρ), w_X10_takeSign fu as M k = some r0 → ∃ v M', xMet l D cA sA yX10_takeSign cX10_takeSign 2 (some .boolean) xG (8 + 1) 0 0 as M v M' ∧ k v M' = some r0 ∧ (kd1 ≠ 2 → ∃ a as', as = .inr (.inr (10, some a)) :: as') := by
  intro as M k h
  unfold w_X10_takeSign at h
  replace h := pR_some h
  obtain ⟨o, as1, rfl, h⟩ := h
  replace h := bd_some h
  obtain ⟨s, rfl, h⟩ := h
  replace h := pI_some h
  obtain ⟨x1, as1, rfl, h⟩ := h
  replace h := xe_some h
  obtain ⟨rfl, h⟩ := h
  obtain ⟨p1, hp, h⟩ := Option.bind_eq_some_iff.mp h
  exact ⟨_, _, ok_X10_takeSign l D cA sA fu s x1 M hp, h, fun _ => ⟨_, _, rfl⟩⟩
theorem cd_X10_taken : Cond.code yX10_taken cX10_taken 2 (some .int) ∈ xG := (xg 878 (by decide +kernel) (by decide +kernel))
theorem pr_X10_taken : (∀ e ∈ pX10_taken, xrow cX10_taken 2 kdX10 flX10 0 false RX10 e) ∧ xnext pX10_taken = true := xrows (by decide +kernel)
set_option maxRecDepth 100000 in
theorem wx_X10_taken (X : xCtx p R S0 m ag c0 D cA A0 sA 2 cX10_taken RX10 (.code yX10_taken cX10_taken 2 (some .int) :: xG) 0 0) (hi : meth.name = yX10_taken.name) (hroom : 0 + 2 ≤ R.frames ∧ 60 * (0 + 2) ≤ R.locals) {rr : Int32 × xM} (hE : xEnd l D cA sA cX10_taken 2 (some .int) R 0 0 (some (.inl rr.1)) rr.2 p e S0 m ag below meth c0 A0 M0 ad0 Z) (fu : Nat) (s : Nat) (x1 : Int32) (M : xM) (h : F_X10_taken fu s x1 M = some rr) : xWx p l e R S0 m ag below meth c0 D cA A0 sA M0 ad0 2 Z 0 0 0 0 0 [(0, .inr (.inr (10, some s))), (1, .inl x1)] [] M := by
  rw [← q_X10_taken fu s x1 M] at h
  have hT : ∀ w ∈ xG, w ∈ (Cond.code yX10_taken cX10_taken 2 (some .int) :: xG) := fun w hw => List.mem_cons_of_mem _ hw
  refine xrun_sound (nst := 0) (isInit := false) (kd := kdX10) X (xcls_mono hT xclsG) (xpool_mono hT plX10) (fun z => by cases z) (fun idx v hf => xkoE_mono hT (koX10_ok _ (xfind_mem hf))) (xents (ca := _) ?_) (endI hE).1 (endI hE).2 (xcuts (cu := _) ?_) pr_X10_taken.1 pr_X10_taken.2 _ _ _ _ _ _ _ _ (xat_ok pr_X10_taken.1 pr_X10_taken.2).1 (xat_ok pr_X10_taken.1 pr_X10_taken.2).2.1 (xat_ok pr_X10_taken.1 pr_X10_taken.2).2.2 h
  · exact (fun _ h => nomatch h)
  · exact (fun _ h => nomatch h)

theorem ok_X10_taken (l : Launch) (D : va_G) (cA : Nat → ClassId) (sA : Nat → Nat) (fu : Nat) (s : Nat) (x1 : Int32) (M : xM) {rr : Int32 × xM} (h : F_X10_taken fu s x1 M = some rr) : xMet l D cA sA yX10_taken cX10_taken 2 (some .int) xG (0 + 1) 0 0 [.inr (.inr (10, some s)), .inl x1] M (some (.inl rr.1)) rr.2 :=
  xmet_of (by decide +kernel) (Nat.le_of_ble_eq_true rfl) (fun p e s1 m ag below meth c0 A0 ad0 Z X hn hE => wx_X10_taken X hn ⟨Nat.le_refl _, Nat.le_refl _⟩ hE fu s x1 M h)
theorem hw_X10_taken (l : Launch) (D : va_G) (cA : Nat → ClassId) (sA : Nat → Nat) (fu : Nat) {ρ : Type} {r0 : ρ} (kd1 : Nat) : ∀ (as : List xV) (M : xM) (k : Option xV → xM → Option ρ), w_X10_taken fu as M k = some r0 → ∃ v M', xMet l D cA sA yX10_taken cX10_taken 2 (some .int) xG (0 + 1) 0 0 as M v M' ∧ k v M' = some r0 ∧ (kd1 ≠ 2 → ∃ a as', as = .inr (.inr (10, some a)) :: as') := by
  intro as M k h
  unfold w_X10_taken at h
  replace h := pR_some h
  obtain ⟨o, as1, rfl, h⟩ := h
  replace h := bd_some h
  obtain ⟨s, rfl, h⟩ := h
  replace h := pI_some h
  obtain ⟨x1, as1, rfl, h⟩ := h
  replace h := xe_some h
  obtain ⟨rfl, h⟩ := h
  obtain ⟨p1, hp, h⟩ := Option.bind_eq_some_iff.mp h
  exact ⟨_, _, ok_X10_taken l D cA sA fu s x1 M hp, h, fun _ => ⟨_, _, rfl⟩⟩
theorem cd_X7_isFile : Cond.code yX7_isFile cX7_isFile 2 (some .boolean) ∈ xG := (xg 964 (by decide +kernel) (by decide +kernel))
theorem pr_X7_isFile : (∀ e ∈ pX7_isFile, xrow cX7_isFile 2 kdX7 flX7 0 false RX7 e) ∧ xnext pX7_isFile = true := xrows (by decide +kernel)
set_option maxRecDepth 100000 in
theorem wx_X7_isFile (X : xCtx p R S0 m ag c0 D cA A0 sA 2 cX7_isFile RX7 (.code yX7_isFile cX7_isFile 2 (some .boolean) :: xG) 0 0) (hi : meth.name = yX7_isFile.name) (hroom : 0 + 2 ≤ R.frames ∧ 60 * (0 + 2) ≤ R.locals) {rr : Int32 × xM} (hE : xEnd l D cA sA cX7_isFile 2 (some .boolean) R 0 0 (some (.inl rr.1)) rr.2 p e S0 m ag below meth c0 A0 M0 ad0 Z) (fu : Nat) (s : Nat) (x1 : Int32) (M : xM) (h : F_X7_isFile fu s x1 M = some rr) : xWx p l e R S0 m ag below meth c0 D cA A0 sA M0 ad0 2 Z 0 0 0 0 0 [(0, .inr (.inr (7, some s))), (1, .inl x1)] [] M := by
  rw [← q_X7_isFile fu s x1 M] at h
  have hT : ∀ w ∈ xG, w ∈ (Cond.code yX7_isFile cX7_isFile 2 (some .boolean) :: xG) := fun w hw => List.mem_cons_of_mem _ hw
  refine xrun_sound (nst := 0) (isInit := false) (kd := kdX7) X (xcls_mono hT xclsG) (xpool_mono hT plX7) (fun z => by cases z) (fun idx v hf => xkoE_mono hT (koX7_ok _ (xfind_mem hf))) (xents (ca := _) ?_) (endZ hE).1 (endZ hE).2 (xcuts (cu := _) ?_) pr_X7_isFile.1 pr_X7_isFile.2 _ _ _ _ _ _ _ _ (xat_ok pr_X7_isFile.1 pr_X7_isFile.2).1 (xat_ok pr_X7_isFile.1 pr_X7_isFile.2).2.1 (xat_ok pr_X7_isFile.1 pr_X7_isFile.2).2.2 h
  · exact (fun _ h => nomatch h)
  · exact (fun _ h => nomatch h)

theorem ok_X7_isFile (l : Launch) (D : va_G) (cA : Nat → ClassId) (sA : Nat → Nat) (fu : Nat) (s : Nat) (x1 : Int32) (M : xM) {rr : Int32 × xM} (h : F_X7_isFile fu s x1 M = some rr) : xMet l D cA sA yX7_isFile cX7_isFile 2 (some .boolean) xG (0 + 1) 0 0 [.inr (.inr (7, some s)), .inl x1] M (some (.inl rr.1)) rr.2 :=
  xmet_of (by decide +kernel) (Nat.le_of_ble_eq_true rfl) (fun p e s1 m ag below meth c0 A0 ad0 Z X hn hE => wx_X7_isFile X hn ⟨Nat.le_refl _, Nat.le_refl _⟩ hE fu s x1 M h)
theorem hw_X7_isFile (l : Launch) (D : va_G) (cA : Nat → ClassId) (sA : Nat → Nat) (fu : Nat) {ρ : Type} {r0 : ρ} (kd1 : Nat) : ∀ (as : List xV) (M : xM) (k : Option xV → xM → Option ρ), w_X7_isFile fu as M k = some r0 → ∃ v M', xMet l D cA sA yX7_isFile cX7_isFile 2 (some .boolean) xG (0 + 1) 0 0 as M v M' ∧ k v M' = some r0 ∧ (kd1 ≠ 2 → ∃ a as', as = .inr (.inr (7, some a)) :: as') := by
  intro as M k h
  unfold w_X7_isFile at h
  replace h := pR_some h
  obtain ⟨o, as1, rfl, h⟩ := h
  replace h := bd_some h
  obtain ⟨s, rfl, h⟩ := h
  replace h := pI_some h
  obtain ⟨x1, as1, rfl, h⟩ := h
  replace h := xe_some h
  obtain ⟨rfl, h⟩ := h
  obtain ⟨p1, hp, h⟩ := Option.bind_eq_some_iff.mp h
  exact ⟨_, _, ok_X7_isFile l D cA sA fu s x1 M hp, h, fun _ => ⟨_, _, rfl⟩⟩
theorem lk_X7_33 : xLink xG RX7 33 0 yX7_isFile 1 := ⟨Or.inl (xg 993 (by decide +kernel) (by decide +kernel)), (xg 962 (by decide +kernel) (by decide +kernel)), (xg 963 (by decide +kernel) (by decide +kernel)), (xg 130 (by decide +kernel) (by decide +kernel)), ⟨7, by decide, TX7, 9, rfl⟩⟩
theorem cd_X7_isPage : Cond.code yX7_isPage cX7_isPage 3 (some .boolean) ∈ xG := (xg 992 (by decide +kernel) (by decide +kernel))
theorem pr_X7_isPage : (∀ e ∈ pX7_isPage, xrow cX7_isPage 3 kdX7 flX7 0 false RX7 e) ∧ xnext pX7_isPage = true := xrows (by decide +kernel)
set_option maxRecDepth 100000 in
theorem wx_X7_isPage (X : xCtx p R S0 m ag c0 D cA A0 sA 3 cX7_isPage RX7 (.code yX7_isPage cX7_isPage 3 (some .boolean) :: xG) 0 0) (hi : meth.name = yX7_isPage.name) (hroom : 1 + 2 ≤ R.frames ∧ 60 * (1 + 2) ≤ R.locals) {rr : Int32 × xM} (hE : xEnd l D cA sA cX7_isPage 3 (some .boolean) R 0 0 (some (.inl rr.1)) rr.2 p e S0 m ag below meth c0 A0 M0 ad0 Z) (fu : Nat) (s : Nat) (x1 : Int32) (x2 : Int32) (M : xM) (h : F_X7_isPage fu s x1 x2 M = some rr) : xWx p l e R S0 m ag below meth c0 D cA A0 sA M0 ad0 3 Z 0 0 0 0 0 [(0, .inr (.inr (7, some s))), (1, .inl x1), (2, .inl x2)] [] M := by
  rw [← q_X7_isPage fu s x1 x2 M] at h
  have hT : ∀ w ∈ xG, w ∈ (Cond.code yX7_isPage cX7_isPage 3 (some .boolean) :: xG) := fun w hw => List.mem_cons_of_mem _ hw
  refine xrun_sound (nst := 0) (isInit := false) (kd := kdX7) X (xcls_mono hT xclsG) (xpool_mono hT plX7) (fun z => by cases z) (fun idx v hf => xkoE_mono hT (koX7_ok _ (xfind_mem hf))) (xents (ca := _) ?_) (endZ hE).1 (endZ hE).2 (xcuts (cu := _) ?_) pr_X7_isPage.1 pr_X7_isPage.2 _ _ _ _ _ _ _ _ (xat_ok pr_X7_isPage.1 pr_X7_isPage.2).1 (xat_ok pr_X7_isPage.1 pr_X7_isPage.2).2.1 (xat_ok pr_X7_isPage.1 pr_X7_isPage.2).2.2 h
  · exact (List.forall_mem_cons.mpr ⟨(xent_met X (ci := 7) hT cd_X7_isFile lk_X7_33 rfl (by decide) rfl (by decide +kernel) (fun z => absurd z (by decide)) (hw_X7_isFile l D cA sA fu 0) (fun _ => ⟨by decide, fun _ => ⟨TX7, 9, rfl⟩⟩) (by constructor <;> omega) (by decide)), (fun _ h => nomatch h)⟩)
  · exact (fun _ h => nomatch h)

theorem ok_X7_isPage (l : Launch) (D : va_G) (cA : Nat → ClassId) (sA : Nat → Nat) (fu : Nat) (s : Nat) (x1 : Int32) (x2 : Int32) (M : xM) {rr : Int32 × xM} (h : F_X7_isPage fu s x1 x2 M = some rr) : xMet l D cA sA yX7_isPage cX7_isPage 3 (some .boolean) xG (1 + 1) 0 0 [.inr (.inr (7, some s)), .inl x1, .inl x2] M (some (.inl rr.1)) rr.2 :=
  xmet_of (by decide +kernel) (Nat.le_of_ble_eq_true rfl) (fun p e s1 m ag below meth c0 A0 ad0 Z X hn hE => wx_X7_isPage X hn ⟨Nat.le_refl _, Nat.le_refl _⟩ hE fu s x1 x2 M h)
theorem hw_X7_isPage (l : Launch) (D : va_G) (cA : Nat → ClassId) (sA : Nat → Nat) (fu : Nat) {ρ : Type} {r0 : ρ} (kd1 : Nat) : ∀ (as : List xV) (M : xM) (k : Option xV → xM → Option ρ), w_X7_isPage fu as M k = some r0 → ∃ v M', xMet l D cA sA yX7_isPage cX7_isPage 3 (some .boolean) xG (1 + 1) 0 0 as M v M' ∧ k v M' = some r0 ∧ (kd1 ≠ 2 → ∃ a as', as = .inr (.inr (7, some a)) :: as') := by
  intro as M k h
  unfold w_X7_isPage at h
  replace h := pR_some h
  obtain ⟨o, as1, rfl, h⟩ := h
  replace h := bd_some h
  obtain ⟨s, rfl, h⟩ := h
  replace h := pI_some h
  obtain ⟨x1, as1, rfl, h⟩ := h
  replace h := pI_some h
  obtain ⟨x2, as1, rfl, h⟩ := h
  replace h := xe_some h
  obtain ⟨rfl, h⟩ := h
  obtain ⟨p1, hp, h⟩ := Option.bind_eq_some_iff.mp h
  exact ⟨_, _, ok_X7_isPage l D cA sA fu s x1 x2 M hp, h, fun _ => ⟨_, _, rfl⟩⟩
theorem cd_X3_clear : Cond.code yX3_clear cX3_clear 1 none ∈ xG := (xg 1186 (by decide +kernel) (by decide +kernel))
theorem pr_X3_clear : (∀ e ∈ pX3_clear, xrow cX3_clear 1 kdX3 flX3 0 false RX3 e) ∧ xnext pX3_clear = true := xrows (by decide +kernel)
set_option maxRecDepth 100000 in
theorem wx_X3_clear (X : xCtx p R S0 m ag c0 D cA A0 sA 1 cX3_clear RX3 (.code yX3_clear cX3_clear 1 none :: xG) 0 0) (hi : meth.name = yX3_clear.name) (hroom : 0 + 2 ≤ R.frames ∧ 60 * (0 + 2) ≤ R.locals) {rr : xM} (hE : xEnd l D cA sA cX3_clear 1 none R 0 0 none rr p e S0 m ag below meth c0 A0 M0 ad0 Z) (fu : Nat) (s : Nat) (M : xM) (h : F_X3_clear fu s M = some rr) : xWx p l e R S0 m ag below meth c0 D cA A0 sA M0 ad0 1 Z 0 0 0 0 0 [(0, .inr (.inr (3, some s)))] [] M := by
  rw [← q_X3_clear fu s M] at h
  have hT : ∀ w ∈ xG, w ∈ (Cond.code yX3_clear cX3_clear 1 none :: xG) := fun w hw => List.mem_cons_of_mem _ hw
  refine xrun_sound (nst := 0) (isInit := false) (kd := kdX3) X (xcls_mono hT xclsG) (xpool_mono hT plX3) (fun z => by cases z) (fun idx v hf => xkoE_mono hT (koX3_ok _ (xfind_mem hf))) (xents (ca := _) ?_) (endV hE).1 (endV hE).2 (xcuts (cu := _) ?_) pr_X3_clear.1 pr_X3_clear.2 _ _ _ _ _ _ _ _ (xat_ok pr_X3_clear.1 pr_X3_clear.2).1 (xat_ok pr_X3_clear.1 pr_X3_clear.2).2.1 (xat_ok pr_X3_clear.1 pr_X3_clear.2).2.2 h
  · exact (fun _ h => nomatch h)
  · exact (fun _ h => nomatch h)

theorem ok_X3_clear (l : Launch) (D : va_G) (cA : Nat → ClassId) (sA : Nat → Nat) (fu : Nat) (s : Nat) (M : xM) {rr : xM} (h : F_X3_clear fu s M = some rr) : xMet l D cA sA yX3_clear cX3_clear 1 none xG (0 + 1) 0 0 [.inr (.inr (3, some s))] M none rr :=
  xmet_of (by decide +kernel) (Nat.le_of_ble_eq_true rfl) (fun p e s1 m ag below meth c0 A0 ad0 Z X hn hE => wx_X3_clear X hn ⟨Nat.le_refl _, Nat.le_refl _⟩ hE fu s M h)
theorem hw_X3_clear (l : Launch) (D : va_G) (cA : Nat → ClassId) (sA : Nat → Nat) (fu : Nat) {ρ : Type} {r0 : ρ} (kd1 : Nat) : ∀ (as : List xV) (M : xM) (k : Option xV → xM → Option ρ), w_X3_clear fu as M k = some r0 → ∃ v M', xMet l D cA sA yX3_clear cX3_clear 1 none xG (0 + 1) 0 0 as M v M' ∧ k v M' = some r0 ∧ (kd1 ≠ 2 → ∃ a as', as = .inr (.inr (3, some a)) :: as') := by
  intro as M k h
  unfold w_X3_clear at h
  replace h := pR_some h
  obtain ⟨o, as1, rfl, h⟩ := h
  replace h := bd_some h
  obtain ⟨s, rfl, h⟩ := h
  replace h := xe_some h
  obtain ⟨rfl, h⟩ := h
  obtain ⟨p1, hp, h⟩ := Option.bind_eq_some_iff.mp h
  exact ⟨_, _, ok_X3_clear l D cA sA fu s M hp, h, fun _ => ⟨_, _, rfl⟩⟩
theorem cd_X2_forgetFiles : Cond.code yX2_forgetFiles cX2_forgetFiles 2 none ∈ xG := (xg 862 (by decide +kernel) (by decide +kernel))
theorem pr_X2_forgetFiles : (∀ e ∈ pX2_forgetFiles, xrow cX2_forgetFiles 2 kdX2 flX2 0 false RX2 e) ∧ xnext pX2_forgetFiles = true := xrows (by decide +kernel)
set_option maxRecDepth 100000 in
theorem wx_X2_forgetFiles_23 (X : xCtx p R S0 m ag c0 D cA A0 sA 2 cX2_forgetFiles RX2 (.code yX2_forgetFiles cX2_forgetFiles 2 none :: xG) 0 0) (hi : meth.name = yX2_forgetFiles.name) (hroom : 0 + 2 ≤ R.frames ∧ 60 * (0 + 2) ≤ R.locals) {rr : xM} (hE : xEnd l D cA sA cX2_forgetFiles 2 none R 0 0 none rr p e S0 m ag below meth c0 A0 M0 ad0 Z) (fu : Nat) : ∀ (n : Nat) (s : Nat) (x1 : Int32) (M : xM), L_X2_forgetFiles_23 fu n s x1 M = some rr → xWx p l e R S0 m ag below meth c0 D cA A0 sA M0 ad0 2 Z 0 0 23 0 0 [(0, .inr (.inr (2, some s))), (1, .inl x1)] [] M := by
  intro n
  induction n with
  | zero => intro s x1 M h; cases h
  | succ n ih =>
    intro s x1 M h
    rw [← q_X2_forgetFiles_23 fu n s x1 M] at h
    have hT : ∀ w ∈ xG, w ∈ (Cond.code yX2_forgetFiles cX2_forgetFiles 2 none :: xG) := fun w hw => List.mem_cons_of_mem _ hw
    refine xrun_sound (nst := 0) (isInit := false) (kd := kdX2) X (xcls_mono hT xclsG) (xpool_mono hT plX2) (fun z => by cases z) (fun idx v hf => xkoE_mono hT (koX2_ok _ (xfind_mem hf))) (xents (ca := _) ?_) (endV hE).1 (endV hE).2 (xcuts (cu := _) ?_) pr_X2_forgetFiles.1 pr_X2_forgetFiles.2 _ _ _ _ _ _ _ _ (xat_ok pr_X2_forgetFiles.1 pr_X2_forgetFiles.2).1 (xat_ok pr_X2_forgetFiles.1 pr_X2_forgetFiles.2).2.1 (xat_ok pr_X2_forgetFiles.1 pr_X2_forgetFiles.2).2.2 h
    · exact (fun _ h => nomatch h)
    · refine (List.forall_mem_cons.mpr ⟨?_, (fun _ h => nomatch h)⟩)
      · intro bc bs ls st M h
        replace h := xz_some h
        obtain ⟨rfl, rfl, h⟩ := h
        replace h := lR_some h
        obtain ⟨o, e0, h⟩ := h
        replace h := bd_some h
        obtain ⟨s', rfl, h⟩ := h
        replace h := lI_some h
        obtain ⟨x1', e1, h⟩ := h
        replace h := xe_some h
        obtain ⟨rfl, h⟩ := h
        exact xWx_ls (ih s' x1' M h) (List.forall_mem_cons.mpr ⟨e0, (List.forall_mem_cons.mpr ⟨e1, (fun _ h => nomatch h)⟩)⟩)

set_option maxRecDepth 100000 in
theorem wx_X2_forgetFiles_2 (X : xCtx p R S0 m ag c0 D cA A0 sA 2 cX2_forgetFiles RX2 (.code yX2_forgetFiles cX2_forgetFiles 2 none :: xG) 0 0) (hi : meth.name = yX2_forgetFiles.name) (hroom : 0 + 2 ≤ R.frames ∧ 60 * (0 + 2) ≤ R.locals) {rr : xM} (hE : xEnd l D cA sA cX2_forgetFiles 2 none R 0 0 none rr p e S0 m ag below meth c0 A0 M0 ad0 Z) (fu : Nat) : ∀ (n : Nat) (s : Nat) (x1 : Int32) (M : xM), L_X2_forgetFiles_2 fu n s x1 M = some rr → xWx p l e R S0 m ag below meth c0 D cA A0 sA M0 ad0 2 Z 0 0 2 0 0 [(0, .inr (.inr (2, some s))), (1, .inl x1)] [] M := by
  intro n
  induction n with
  | zero => intro s x1 M h; cases h
  | succ n ih =>
    intro s x1 M h
    rw [← q_X2_forgetFiles_2 fu n s x1 M] at h
    have hT : ∀ w ∈ xG, w ∈ (Cond.code yX2_forgetFiles cX2_forgetFiles 2 none :: xG) := fun w hw => List.mem_cons_of_mem _ hw
    refine xrun_sound (nst := 0) (isInit := false) (kd := kdX2) X (xcls_mono hT xclsG) (xpool_mono hT plX2) (fun z => by cases z) (fun idx v hf => xkoE_mono hT (koX2_ok _ (xfind_mem hf))) (xents (ca := _) ?_) (endV hE).1 (endV hE).2 (xcuts (cu := _) ?_) pr_X2_forgetFiles.1 pr_X2_forgetFiles.2 _ _ _ _ _ _ _ _ (xat_ok pr_X2_forgetFiles.1 pr_X2_forgetFiles.2).1 (xat_ok pr_X2_forgetFiles.1 pr_X2_forgetFiles.2).2.1 (xat_ok pr_X2_forgetFiles.1 pr_X2_forgetFiles.2).2.2 h
    · exact (fun _ h => nomatch h)
    · refine (List.forall_mem_cons.mpr ⟨?_, (List.forall_mem_cons.mpr ⟨?_, (fun _ h => nomatch h)⟩)⟩)
      · intro bc bs ls st M h
        replace h := xz_some h
        obtain ⟨rfl, rfl, h⟩ := h
        replace h := lR_some h
        obtain ⟨o, e0, h⟩ := h
        replace h := bd_some h
        obtain ⟨s', rfl, h⟩ := h
        replace h := lI_some h
        obtain ⟨x1', e1, h⟩ := h
        replace h := xe_some h
        obtain ⟨rfl, h⟩ := h
        exact xWx_ls (ih s' x1' M h) (List.forall_mem_cons.mpr ⟨e0, (List.forall_mem_cons.mpr ⟨e1, (fun _ h => nomatch h)⟩)⟩)
      · intro bc bs ls st M h
        replace h := xz_some h
        obtain ⟨rfl, rfl, h⟩ := h
        replace h := lR_some h
        obtain ⟨o, e0, h⟩ := h
        replace h := bd_some h
        obtain ⟨s', rfl, h⟩ := h
        replace h := lI_some h
        obtain ⟨x1', e1, h⟩ := h
        replace h := xe_some h
        obtain ⟨rfl, h⟩ := h
        exact xWx_ls (wx_X2_forgetFiles_23 X hi hroom hE fu fu s' x1' M h) (List.forall_mem_cons.mpr ⟨e0, (List.forall_mem_cons.mpr ⟨e1, (fun _ h => nomatch h)⟩)⟩)

set_option maxRecDepth 100000 in
theorem wx_X2_forgetFiles (X : xCtx p R S0 m ag c0 D cA A0 sA 2 cX2_forgetFiles RX2 (.code yX2_forgetFiles cX2_forgetFiles 2 none :: xG) 0 0) (hi : meth.name = yX2_forgetFiles.name) (hroom : 0 + 2 ≤ R.frames ∧ 60 * (0 + 2) ≤ R.locals) {rr : xM} (hE : xEnd l D cA sA cX2_forgetFiles 2 none R 0 0 none rr p e S0 m ag below meth c0 A0 M0 ad0 Z) (fu : Nat) (s : Nat) (M : xM) (h : F_X2_forgetFiles fu s M = some rr) : xWx p l e R S0 m ag below meth c0 D cA A0 sA M0 ad0 2 Z 0 0 0 0 0 [(0, .inr (.inr (2, some s)))] [] M := by
  rw [← q_X2_forgetFiles fu s M] at h
  have hT : ∀ w ∈ xG, w ∈ (Cond.code yX2_forgetFiles cX2_forgetFiles 2 none :: xG) := fun w hw => List.mem_cons_of_mem _ hw
  refine xrun_sound (nst := 0) (isInit := false) (kd := kdX2) X (xcls_mono hT xclsG) (xpool_mono hT plX2) (fun z => by cases z) (fun idx v hf => xkoE_mono hT (koX2_ok _ (xfind_mem hf))) (xents (ca := _) ?_) (endV hE).1 (endV hE).2 (xcuts (cu := _) ?_) pr_X2_forgetFiles.1 pr_X2_forgetFiles.2 _ _ _ _ _ _ _ _ (xat_ok pr_X2_forgetFiles.1 pr_X2_forgetFiles.2).1 (xat_ok pr_X2_forgetFiles.1 pr_X2_forgetFiles.2).2.1 (xat_ok pr_X2_forgetFiles.1 pr_X2_forgetFiles.2).2.2 h
  · exact (fun _ h => nomatch h)
  · refine (List.forall_mem_cons.mpr ⟨?_, (fun _ h => nomatch h)⟩)
    · intro bc bs ls st M h
      replace h := xz_some h
      obtain ⟨rfl, rfl, h⟩ := h
      replace h := lR_some h
      obtain ⟨o, e0, h⟩ := h
      replace h := bd_some h
      obtain ⟨s', rfl, h⟩ := h
      replace h := lI_some h
      obtain ⟨x1', e1, h⟩ := h
      replace h := xe_some h
      obtain ⟨rfl, h⟩ := h
      exact xWx_ls (wx_X2_forgetFiles_2 X hi hroom hE fu fu s' x1' M h) (List.forall_mem_cons.mpr ⟨e0, (List.forall_mem_cons.mpr ⟨e1, (fun _ h => nomatch h)⟩)⟩)

theorem ok_X2_forgetFiles (l : Launch) (D : va_G) (cA : Nat → ClassId) (sA : Nat → Nat) (fu : Nat) (s : Nat) (M : xM) {rr : xM} (h : F_X2_forgetFiles fu s M = some rr) : xMet l D cA sA yX2_forgetFiles cX2_forgetFiles 2 none xG (0 + 1) 0 0 [.inr (.inr (2, some s))] M none rr :=
  xmet_of (by decide +kernel) (Nat.le_of_ble_eq_true rfl) (fun p e s1 m ag below meth c0 A0 ad0 Z X hn hE => wx_X2_forgetFiles X hn ⟨Nat.le_refl _, Nat.le_refl _⟩ hE fu s M h)
theorem hw_X2_forgetFiles (l : Launch) (D : va_G) (cA : Nat → ClassId) (sA : Nat → Nat) (fu : Nat) {ρ : Type} {r0 : ρ} (kd1 : Nat) : ∀ (as : List xV) (M : xM) (k : Option xV → xM → Option ρ), w_X2_forgetFiles fu as M k = some r0 → ∃ v M', xMet l D cA sA yX2_forgetFiles cX2_forgetFiles 2 none xG (0 + 1) 0 0 as M v M' ∧ k v M' = some r0 ∧ (kd1 ≠ 2 → ∃ a as', as = .inr (.inr (2, some a)) :: as') := by
  intro as M k h
  unfold w_X2_forgetFiles at h
  replace h := pR_some h
  obtain ⟨o, as1, rfl, h⟩ := h
  replace h := bd_some h
  obtain ⟨s, rfl, h⟩ := h
  replace h := xe_some h
  obtain ⟨rfl, h⟩ := h
  obtain ⟨p1, hp, h⟩ := Option.bind_eq_some_iff.mp h
  exact ⟨_, _, ok_X2_forgetFiles l D cA sA fu s M hp, h, fun _ => ⟨_, _, rfl⟩⟩
theorem lk_X2_51 : xLink xG RX2 51 0 yX0_start 1 := ⟨Or.inl (xg 421 (by decide +kernel) (by decide +kernel)), (xg 422 (by decide +kernel) (by decide +kernel)), (xg 423 (by decide +kernel) (by decide +kernel)), (xg 135 (by decide +kernel) (by decide +kernel)), ⟨0, by decide, TX0, 16, rfl⟩⟩
theorem lk_X2_65 : xLink xG RX2 65 0 yX2_forgetFiles 0 := ⟨Or.inl (xg 859 (by decide +kernel) (by decide +kernel)), (xg 861 (by decide +kernel) (by decide +kernel)), (xg 14 (by decide +kernel) (by decide +kernel)), (xg 134 (by decide +kernel) (by decide +kernel)), ⟨2, by decide, TX2, 16, rfl⟩⟩
theorem cd_X2_start : Cond.code yX2_start cX2_start 2 none ∈ xG := (xg 858 (by decide +kernel) (by decide +kernel))
theorem pr_X2_start : (∀ e ∈ pX2_start, xrow cX2_start 2 kdX2 flX2 0 false RX2 e) ∧ xnext pX2_start = true := xrows (by decide +kernel)
set_option maxRecDepth 100000 in
theorem wx_X2_start (X : xCtx p R S0 m ag c0 D cA A0 sA 2 cX2_start RX2 (.code yX2_start cX2_start 2 none :: xG) 0 0) (hi : meth.name = yX2_start.name) (hroom : 7 + 2 ≤ R.frames ∧ 60 * (7 + 2) ≤ R.locals) {rr : xM} (hE : xEnd l D cA sA cX2_start 2 none R 0 0 none rr p e S0 m ag below meth c0 A0 M0 ad0 Z) (fu : Nat) (s : Nat) (x1 : Option Nat) (M : xM) (h : F_X2_start fu s x1 M = some rr) : xWx p l e R S0 m ag below meth c0 D cA A0 sA M0 ad0 2 Z 0 0 0 0 0 [(0, .inr (.inr (2, some s))), (1, .inr (.inr (7, x1)))] [] M := by
  rw [← q_X2_start fu s x1 M] at h
  have hT : ∀ w ∈ xG, w ∈ (Cond.code yX2_start cX2_start 2 none :: xG) := fun w hw => List.mem_cons_of_mem _ hw
  refine xrun_sound (nst := 0) (isInit := false) (kd := kdX2) X (xcls_mono hT xclsG) (xpool_mono hT plX2) (fun z => by cases z) (fun idx v hf => xkoE_mono hT (koX2_ok _ (xfind_mem hf))) (xents (ca := _) ?_) (endV hE).1 (endV hE).2 (xcuts (cu := _) ?_) pr_X2_start.1 pr_X2_start.2 _ _ _ _ _ _ _ _ (xat_ok pr_X2_start.1 pr_X2_start.2).1 (xat_ok pr_X2_start.1 pr_X2_start.2).2.1 (xat_ok pr_X2_start.1 pr_X2_start.2).2.2 h
  · exact (List.forall_mem_cons.mpr ⟨(xent_met X (ci := 0) hT cd_X0_start lk_X2_51 rfl (by decide) rfl (by decide +kernel) (fun z => absurd z (by decide)) (hw_X0_start l D cA sA fu 0) (fun _ => ⟨by decide, fun _ => ⟨TX0, 16, rfl⟩⟩) (by constructor <;> omega) (by decide)), (List.forall_mem_cons.mpr ⟨(xent_met X (ci := 2) hT cd_X2_forgetFiles lk_X2_65 rfl (by decide) rfl (by decide +kernel) (fun z => absurd z (by decide)) (hw_X2_forgetFiles l D cA sA fu 0) (fun _ => ⟨by decide, fun _ => ⟨TX2, 16, rfl⟩⟩) (by constructor <;> omega) (by decide)), (fun _ h => nomatch h)⟩)⟩)
  · exact (fun _ h => nomatch h)

theorem ok_X2_start (l : Launch) (D : va_G) (cA : Nat → ClassId) (sA : Nat → Nat) (fu : Nat) (s : Nat) (x1 : Option Nat) (M : xM) {rr : xM} (h : F_X2_start fu s x1 M = some rr) : xMet l D cA sA yX2_start cX2_start 2 none xG (7 + 1) 0 0 [.inr (.inr (2, some s)), .inr (.inr (7, x1))] M none rr :=
  xmet_of (by decide +kernel) (Nat.le_of_ble_eq_true rfl) (fun p e s1 m ag below meth c0 A0 ad0 Z X hn hE => wx_X2_start X hn ⟨Nat.le_refl _, Nat.le_refl _⟩ hE fu s x1 M h)
theorem hw_X2_start (l : Launch) (D : va_G) (cA : Nat → ClassId) (sA : Nat → Nat) (fu : Nat) {ρ : Type} {r0 : ρ} (kd1 : Nat) : ∀ (as : List xV) (M : xM) (k : Option xV → xM → Option ρ), w_X2_start fu as M k = some r0 → ∃ v M', xMet l D cA sA yX2_start cX2_start 2 none xG (7 + 1) 0 0 as M v M' ∧ k v M' = some r0 ∧ (kd1 ≠ 2 → ∃ a as', as = .inr (.inr (2, some a)) :: as') := by
  intro as M k h
  unfold w_X2_start at h
  replace h := pR_some h
  obtain ⟨o, as1, rfl, h⟩ := h
  replace h := bd_some h
  obtain ⟨s, rfl, h⟩ := h
  replace h := pR_some h
  obtain ⟨x1, as1, rfl, h⟩ := h
  replace h := xe_some h
  obtain ⟨rfl, h⟩ := h
  obtain ⟨p1, hp, h⟩ := Option.bind_eq_some_iff.mp h
  exact ⟨_, _, ok_X2_start l D cA sA fu s x1 M hp, h, fun _ => ⟨_, _, rfl⟩⟩
theorem cd_X4_clear : Cond.code yX4_clear cX4_clear 2 none ∈ xG := (xg 1042 (by decide +kernel) (by decide +kernel))
theorem pr_X4_clear : (∀ e ∈ pX4_clear, xrow cX4_clear 2 kdX4 flX4 0 false RX4 e) ∧ xnext pX4_clear = true := xrows (by decide +kernel)
set_option maxRecDepth 100000 in
theorem wx_X4_clear_37 (X : xCtx p R S0 m ag c0 D cA A0 sA 2 cX4_clear RX4 (.code yX4_clear cX4_clear 2 none :: xG) 0 0) (hi : meth.name = yX4_clear.name) (hroom : 0 + 2 ≤ R.frames ∧ 60 * (0 + 2) ≤ R.locals) {rr : xM} (hE : xEnd l D cA sA cX4_clear 2 none R 0 0 none rr p e S0 m ag below meth c0 A0 M0 ad0 Z) (fu : Nat) : ∀ (n : Nat) (s : Nat) (x1 : Int32) (M : xM), L_X4_clear_37 fu n s x1 M = some rr → xWx p l e R S0 m ag below meth c0 D cA A0 sA M0 ad0 2 Z 0 0 37 0 0 [(0, .inr (.inr (4, some s))), (1, .inl x1)] [] M := by
  intro n
  induction n with
  | zero => intro s x1 M h; cases h
  | succ n ih =>
    intro s x1 M h
    rw [← q_X4_clear_37 fu n s x1 M] at h
    have hT : ∀ w ∈ xG, w ∈ (Cond.code yX4_clear cX4_clear 2 none :: xG) := fun w hw => List.mem_cons_of_mem _ hw
    refine xrun_sound (nst := 0) (isInit := false) (kd := kdX4) X (xcls_mono hT xclsG) (xpool_mono hT plX4) (fun z => by cases z) (fun idx v hf => xkoE_mono hT (koX4_ok _ (xfind_mem hf))) (xents (ca := _) ?_) (endV hE).1 (endV hE).2 (xcuts (cu := _) ?_) pr_X4_clear.1 pr_X4_clear.2 _ _ _ _ _ _ _ _ (xat_ok pr_X4_clear.1 pr_X4_clear.2).1 (xat_ok pr_X4_clear.1 pr_X4_clear.2).2.1 (xat_ok pr_X4_clear.1 pr_X4_clear.2).2.2 h
    · exact (fun _ h => nomatch h)
    · refine (List.forall_mem_cons.mpr ⟨?_, (fun _ h => nomatch h)⟩)
      · intro bc bs ls st M h
        replace h := xz_some h
        obtain ⟨rfl, rfl, h⟩ := h
        replace h := lR_some h
        obtain ⟨o, e0, h⟩ := h
        replace h := bd_some h
        obtain ⟨s', rfl, h⟩ := h
        replace h := lI_some h
        obtain ⟨x1', e1, h⟩ := h
        replace h := xe_some h
        obtain ⟨rfl, h⟩ := h
        exact xWx_ls (ih s' x1' M h) (List.forall_mem_cons.mpr ⟨e0, (List.forall_mem_cons.mpr ⟨e1, (fun _ h => nomatch h)⟩)⟩)

set_option maxRecDepth 100000 in
theorem wx_X4_clear_2 (X : xCtx p R S0 m ag c0 D cA A0 sA 2 cX4_clear RX4 (.code yX4_clear cX4_clear 2 none :: xG) 0 0) (hi : meth.name = yX4_clear.name) (hroom : 0 + 2 ≤ R.frames ∧ 60 * (0 + 2) ≤ R.locals) {rr : xM} (hE : xEnd l D cA sA cX4_clear 2 none R 0 0 none rr p e S0 m ag below meth c0 A0 M0 ad0 Z) (fu : Nat) : ∀ (n : Nat) (s : Nat) (x1 : Int32) (M : xM), L_X4_clear_2 fu n s x1 M = some rr → xWx p l e R S0 m ag below meth c0 D cA A0 sA M0 ad0 2 Z 0 0 2 0 0 [(0, .inr (.inr (4, some s))), (1, .inl x1)] [] M := by
  intro n
  induction n with
  | zero => intro s x1 M h; cases h
  | succ n ih =>
    intro s x1 M h
    rw [← q_X4_clear_2 fu n s x1 M] at h
    have hT : ∀ w ∈ xG, w ∈ (Cond.code yX4_clear cX4_clear 2 none :: xG) := fun w hw => List.mem_cons_of_mem _ hw
    refine xrun_sound (nst := 0) (isInit := false) (kd := kdX4) X (xcls_mono hT xclsG) (xpool_mono hT plX4) (fun z => by cases z) (fun idx v hf => xkoE_mono hT (koX4_ok _ (xfind_mem hf))) (xents (ca := _) ?_) (endV hE).1 (endV hE).2 (xcuts (cu := _) ?_) pr_X4_clear.1 pr_X4_clear.2 _ _ _ _ _ _ _ _ (xat_ok pr_X4_clear.1 pr_X4_clear.2).1 (xat_ok pr_X4_clear.1 pr_X4_clear.2).2.1 (xat_ok pr_X4_clear.1 pr_X4_clear.2).2.2 h
    · exact (fun _ h => nomatch h)
    · refine (List.forall_mem_cons.mpr ⟨?_, (List.forall_mem_cons.mpr ⟨?_, (fun _ h => nomatch h)⟩)⟩)
      · intro bc bs ls st M h
        replace h := xz_some h
        obtain ⟨rfl, rfl, h⟩ := h
        replace h := lR_some h
        obtain ⟨o, e0, h⟩ := h
        replace h := bd_some h
        obtain ⟨s', rfl, h⟩ := h
        replace h := lI_some h
        obtain ⟨x1', e1, h⟩ := h
        replace h := xe_some h
        obtain ⟨rfl, h⟩ := h
        exact xWx_ls (ih s' x1' M h) (List.forall_mem_cons.mpr ⟨e0, (List.forall_mem_cons.mpr ⟨e1, (fun _ h => nomatch h)⟩)⟩)
      · intro bc bs ls st M h
        replace h := xz_some h
        obtain ⟨rfl, rfl, h⟩ := h
        replace h := lR_some h
        obtain ⟨o, e0, h⟩ := h
        replace h := bd_some h
        obtain ⟨s', rfl, h⟩ := h
        replace h := lI_some h
        obtain ⟨x1', e1, h⟩ := h
        replace h := xe_some h
        obtain ⟨rfl, h⟩ := h
        exact xWx_ls (wx_X4_clear_37 X hi hroom hE fu fu s' x1' M h) (List.forall_mem_cons.mpr ⟨e0, (List.forall_mem_cons.mpr ⟨e1, (fun _ h => nomatch h)⟩)⟩)

set_option maxRecDepth 100000 in
theorem wx_X4_clear (X : xCtx p R S0 m ag c0 D cA A0 sA 2 cX4_clear RX4 (.code yX4_clear cX4_clear 2 none :: xG) 0 0) (hi : meth.name = yX4_clear.name) (hroom : 0 + 2 ≤ R.frames ∧ 60 * (0 + 2) ≤ R.locals) {rr : xM} (hE : xEnd l D cA sA cX4_clear 2 none R 0 0 none rr p e S0 m ag below meth c0 A0 M0 ad0 Z) (fu : Nat) (s : Nat) (M : xM) (h : F_X4_clear fu s M = some rr) : xWx p l e R S0 m ag below meth c0 D cA A0 sA M0 ad0 2 Z 0 0 0 0 0 [(0, .inr (.inr (4, some s)))] [] M := by
  rw [← q_X4_clear fu s M] at h
  have hT : ∀ w ∈ xG, w ∈ (Cond.code yX4_clear cX4_clear 2 none :: xG) := fun w hw => List.mem_cons_of_mem _ hw
  refine xrun_sound (nst := 0) (isInit := false) (kd := kdX4) X (xcls_mono hT xclsG) (xpool_mono hT plX4) (fun z => by cases z) (fun idx v hf => xkoE_mono hT (koX4_ok _ (xfind_mem hf))) (xents (ca := _) ?_) (endV hE).1 (endV hE).2 (xcuts (cu := _) ?_) pr_X4_clear.1 pr_X4_clear.2 _ _ _ _ _ _ _ _ (xat_ok pr_X4_clear.1 pr_X4_clear.2).1 (xat_ok pr_X4_clear.1 pr_X4_clear.2).2.1 (xat_ok pr_X4_clear.1 pr_X4_clear.2).2.2 h
  · exact (fun _ h => nomatch h)
  · refine (List.forall_mem_cons.mpr ⟨?_, (fun _ h => nomatch h)⟩)
    · intro bc bs ls st M h
      replace h := xz_some h
      obtain ⟨rfl, rfl, h⟩ := h
      replace h := lR_some h
      obtain ⟨o, e0, h⟩ := h
      replace h := bd_some h
      obtain ⟨s', rfl, h⟩ := h
      replace h := lI_some h
      obtain ⟨x1', e1, h⟩ := h
      replace h := xe_some h
      obtain ⟨rfl, h⟩ := h
      exact xWx_ls (wx_X4_clear_2 X hi hroom hE fu fu s' x1' M h) (List.forall_mem_cons.mpr ⟨e0, (List.forall_mem_cons.mpr ⟨e1, (fun _ h => nomatch h)⟩)⟩)

theorem ok_X4_clear (l : Launch) (D : va_G) (cA : Nat → ClassId) (sA : Nat → Nat) (fu : Nat) (s : Nat) (M : xM) {rr : xM} (h : F_X4_clear fu s M = some rr) : xMet l D cA sA yX4_clear cX4_clear 2 none xG (0 + 1) 0 0 [.inr (.inr (4, some s))] M none rr :=
  xmet_of (by decide +kernel) (Nat.le_of_ble_eq_true rfl) (fun p e s1 m ag below meth c0 A0 ad0 Z X hn hE => wx_X4_clear X hn ⟨Nat.le_refl _, Nat.le_refl _⟩ hE fu s M h)
theorem hw_X4_clear (l : Launch) (D : va_G) (cA : Nat → ClassId) (sA : Nat → Nat) (fu : Nat) {ρ : Type} {r0 : ρ} (kd1 : Nat) : ∀ (as : List xV) (M : xM) (k : Option xV → xM → Option ρ), w_X4_clear fu as M k = some r0 → ∃ v M', xMet l D cA sA yX4_clear cX4_clear 2 none xG (0 + 1) 0 0 as M v M' ∧ k v M' = some r0 ∧ (kd1 ≠ 2 → ∃ a as', as = .inr (.inr (4, some a)) :: as') := by
  intro as M k h
  unfold w_X4_clear at h
  replace h := pR_some h
  obtain ⟨o, as1, rfl, h⟩ := h
  replace h := bd_some h
  obtain ⟨s, rfl, h⟩ := h
  replace h := xe_some h
  obtain ⟨rfl, h⟩ := h
  obtain ⟨p1, hp, h⟩ := Option.bind_eq_some_iff.mp h
  exact ⟨_, _, ok_X4_clear l D cA sA fu s M hp, h, fun _ => ⟨_, _, rfl⟩⟩
theorem cd_X4_takePart : Cond.code yX4_takePart cX4_takePart 4 none ∈ xG := (xg 1047 (by decide +kernel) (by decide +kernel))
theorem pr_X4_takePart : (∀ e ∈ pX4_takePart, xrow cX4_takePart 4 kdX4 flX4 0 false RX4 e) ∧ xnext pX4_takePart = true := xrows (by decide +kernel)
set_option maxRecDepth 100000 in
theorem wx_X4_takePart_2 (X : xCtx p R S0 m ag c0 D cA A0 sA 4 cX4_takePart RX4 (.code yX4_takePart cX4_takePart 4 none :: xG) 0 0) (hi : meth.name = yX4_takePart.name) (hroom : 0 + 2 ≤ R.frames ∧ 60 * (0 + 2) ≤ R.locals) {rr : xM} (hE : xEnd l D cA sA cX4_takePart 4 none R 0 0 none rr p e S0 m ag below meth c0 A0 M0 ad0 Z) (fu : Nat) : ∀ (n : Nat) (s : Nat) (x1 : Option Nat) (x2 : Int32) (x3 : Int32) (M : xM), L_X4_takePart_2 fu n s x1 x2 x3 M = some rr → xWx p l e R S0 m ag below meth c0 D cA A0 sA M0 ad0 4 Z 0 0 2 0 0 [(0, .inr (.inr (4, some s))), (1, .inr (.inr (0, x1))), (2, .inl x2), (3, .inl x3)] [] M := by
  intro n
  induction n with
  | zero => intro s x1 x2 x3 M h; cases h
  | succ n ih =>
    intro s x1 x2 x3 M h
    rw [← q_X4_takePart_2 fu n s x1 x2 x3 M] at h
    have hT : ∀ w ∈ xG, w ∈ (Cond.code yX4_takePart cX4_takePart 4 none :: xG) := fun w hw => List.mem_cons_of_mem _ hw
    refine xrun_sound (nst := 0) (isInit := false) (kd := kdX4) X (xcls_mono hT xclsG) (xpool_mono hT plX4) (fun z => by cases z) (fun idx v hf => xkoE_mono hT (koX4_ok _ (xfind_mem hf))) (xents (ca := _) ?_) (endV hE).1 (endV hE).2 (xcuts (cu := _) ?_) pr_X4_takePart.1 pr_X4_takePart.2 _ _ _ _ _ _ _ _ (xat_ok pr_X4_takePart.1 pr_X4_takePart.2).1 (xat_ok pr_X4_takePart.1 pr_X4_takePart.2).2.1 (xat_ok pr_X4_takePart.1 pr_X4_takePart.2).2.2 h
    · exact (fun _ h => nomatch h)
    · refine (List.forall_mem_cons.mpr ⟨?_, (fun _ h => nomatch h)⟩)
      · intro bc bs ls st M h
        replace h := xz_some h
        obtain ⟨rfl, rfl, h⟩ := h
        replace h := lR_some h
        obtain ⟨o, e0, h⟩ := h
        replace h := bd_some h
        obtain ⟨s', rfl, h⟩ := h
        replace h := lR_some h
        obtain ⟨x1', e1, h⟩ := h
        replace h := lI_some h
        obtain ⟨x2', e2, h⟩ := h
        replace h := lI_some h
        obtain ⟨x3', e3, h⟩ := h
        replace h := xe_some h
        obtain ⟨rfl, h⟩ := h
        exact xWx_ls (ih s' x1' x2' x3' M h) (List.forall_mem_cons.mpr ⟨e0, (List.forall_mem_cons.mpr ⟨e1, (List.forall_mem_cons.mpr ⟨e2, (List.forall_mem_cons.mpr ⟨e3, (fun _ h => nomatch h)⟩)⟩)⟩)⟩)

set_option maxRecDepth 100000 in
theorem wx_X4_takePart (X : xCtx p R S0 m ag c0 D cA A0 sA 4 cX4_takePart RX4 (.code yX4_takePart cX4_takePart 4 none :: xG) 0 0) (hi : meth.name = yX4_takePart.name) (hroom : 0 + 2 ≤ R.frames ∧ 60 * (0 + 2) ≤ R.locals) {rr : xM} (hE : xEnd l D cA sA cX4_takePart 4 none R 0 0 none rr p e S0 m ag below meth c0 A0 M0 ad0 Z) (fu : Nat) (s : Nat) (x1 : Option Nat) (x2 : Int32) (M : xM) (h : F_X4_takePart fu s x1 x2 M = some rr) : xWx p l e R S0 m ag below meth c0 D cA A0 sA M0 ad0 4 Z 0 0 0 0 0 [(0, .inr (.inr (4, some s))), (1, .inr (.inr (0, x1))), (2, .inl x2)] [] M := by
  rw [← q_X4_takePart fu s x1 x2 M] at h
  have hT : ∀ w ∈ xG, w ∈ (Cond.code yX4_takePart cX4_takePart 4 none :: xG) := fun w hw => List.mem_cons_of_mem _ hw
  refine xrun_sound (nst := 0) (isInit := false) (kd := kdX4) X (xcls_mono hT xclsG) (xpool_mono hT plX4) (fun z => by cases z) (fun idx v hf => xkoE_mono hT (koX4_ok _ (xfind_mem hf))) (xents (ca := _) ?_) (endV hE).1 (endV hE).2 (xcuts (cu := _) ?_) pr_X4_takePart.1 pr_X4_takePart.2 _ _ _ _ _ _ _ _ (xat_ok pr_X4_takePart.1 pr_X4_takePart.2).1 (xat_ok pr_X4_takePart.1 pr_X4_takePart.2).2.1 (xat_ok pr_X4_takePart.1 pr_X4_takePart.2).2.2 h
  · exact (fun _ h => nomatch h)
  · refine (List.forall_mem_cons.mpr ⟨?_, (fun _ h => nomatch h)⟩)
    · intro bc bs ls st M h
      replace h := xz_some h
      obtain ⟨rfl, rfl, h⟩ := h
      replace h := lR_some h
      obtain ⟨o, e0, h⟩ := h
      replace h := bd_some h
      obtain ⟨s', rfl, h⟩ := h
      replace h := lR_some h
      obtain ⟨x1', e1, h⟩ := h
      replace h := lI_some h
      obtain ⟨x2', e2, h⟩ := h
      replace h := lI_some h
      obtain ⟨x3', e3, h⟩ := h
      replace h := xe_some h
      obtain ⟨rfl, h⟩ := h
      exact xWx_ls (wx_X4_takePart_2 X hi hroom hE fu fu s' x1' x2' x3' M h) (List.forall_mem_cons.mpr ⟨e0, (List.forall_mem_cons.mpr ⟨e1, (List.forall_mem_cons.mpr ⟨e2, (List.forall_mem_cons.mpr ⟨e3, (fun _ h => nomatch h)⟩)⟩)⟩)⟩)

theorem ok_X4_takePart (l : Launch) (D : va_G) (cA : Nat → ClassId) (sA : Nat → Nat) (fu : Nat) (s : Nat) (x1 : Option Nat) (x2 : Int32) (M : xM) {rr : xM} (h : F_X4_takePart fu s x1 x2 M = some rr) : xMet l D cA sA yX4_takePart cX4_takePart 4 none xG (0 + 1) 0 0 [.inr (.inr (4, some s)), .inr (.inr (0, x1)), .inl x2] M none rr :=
  xmet_of (by decide +kernel) (Nat.le_of_ble_eq_true rfl) (fun p e s1 m ag below meth c0 A0 ad0 Z X hn hE => wx_X4_takePart X hn ⟨Nat.le_refl _, Nat.le_refl _⟩ hE fu s x1 x2 M h)
theorem hw_X4_takePart (l : Launch) (D : va_G) (cA : Nat → ClassId) (sA : Nat → Nat) (fu : Nat) {ρ : Type} {r0 : ρ} (kd1 : Nat) : ∀ (as : List xV) (M : xM) (k : Option xV → xM → Option ρ), w_X4_takePart fu as M k = some r0 → ∃ v M', xMet l D cA sA yX4_takePart cX4_takePart 4 none xG (0 + 1) 0 0 as M v M' ∧ k v M' = some r0 ∧ (kd1 ≠ 2 → ∃ a as', as = .inr (.inr (4, some a)) :: as') := by
  intro as M k h
  unfold w_X4_takePart at h
  replace h := pR_some h
  obtain ⟨o, as1, rfl, h⟩ := h
  replace h := bd_some h
  obtain ⟨s, rfl, h⟩ := h
  replace h := pR_some h
  obtain ⟨x1, as1, rfl, h⟩ := h
  replace h := pI_some h
  obtain ⟨x2, as1, rfl, h⟩ := h
  replace h := xe_some h
  obtain ⟨rfl, h⟩ := h
  obtain ⟨p1, hp, h⟩ := Option.bind_eq_some_iff.mp h
  exact ⟨_, _, ok_X4_takePart l D cA sA fu s x1 x2 M hp, h, fun _ => ⟨_, _, rfl⟩⟩
theorem cd_X4_takeData : Cond.code yX4_takeData cX4_takeData 7 none ∈ xG := (xg 1052 (by decide +kernel) (by decide +kernel))
theorem pr_X4_takeData : (∀ e ∈ pX4_takeData, xrow cX4_takeData 7 kdX4 flX4 0 false RX4 e) ∧ xnext pX4_takeData = true := xrows (by decide +kernel)
set_option maxRecDepth 100000 in
theorem wx_X4_takeData_80 (X : xCtx p R S0 m ag c0 D cA A0 sA 7 cX4_takeData RX4 (.code yX4_takeData cX4_takeData 7 none :: xG) 0 0) (hi : meth.name = yX4_takeData.name) (hroom : 0 + 2 ≤ R.frames ∧ 60 * (0 + 2) ≤ R.locals) {rr : xM} (hE : xEnd l D cA sA cX4_takeData 7 none R 0 0 none rr p e S0 m ag below meth c0 A0 M0 ad0 Z) (fu : Nat) (s : Nat) (x1 : Option Nat) (x2 : Int32) (x3 : Int32) (x5 : Int32) (y0 : Int32) (M : xM) (h : J_X4_takeData_80 fu s x1 x2 x3 x5 y0 M = some rr) : xWx p l e R S0 m ag below meth c0 D cA A0 sA M0 ad0 7 Z 0 0 80 0 0 [(0, .inr (.inr (4, some s))), (1, .inr (.inr (0, x1))), (2, .inl x2), (3, .inl x3), (5, .inl x5)] [.inl y0] M := by
  rw [← q_X4_takeData_80 fu s x1 x2 x3 x5 y0 M] at h
  have hT : ∀ w ∈ xG, w ∈ (Cond.code yX4_takeData cX4_takeData 7 none :: xG) := fun w hw => List.mem_cons_of_mem _ hw
  refine xrun_sound (nst := 0) (isInit := false) (kd := kdX4) X (xcls_mono hT xclsG) (xpool_mono hT plX4) (fun z => by cases z) (fun idx v hf => xkoE_mono hT (koX4_ok _ (xfind_mem hf))) (xents (ca := _) ?_) (endV hE).1 (endV hE).2 (xcuts (cu := _) ?_) pr_X4_takeData.1 pr_X4_takeData.2 _ _ _ _ _ _ _ _ (xat_ok pr_X4_takeData.1 pr_X4_takeData.2).1 (xat_ok pr_X4_takeData.1 pr_X4_takeData.2).2.1 (xat_ok pr_X4_takeData.1 pr_X4_takeData.2).2.2 h
  · exact (fun _ h => nomatch h)
  · exact (fun _ h => nomatch h)

set_option maxRecDepth 100000 in
theorem wx_X4_takeData (X : xCtx p R S0 m ag c0 D cA A0 sA 7 cX4_takeData RX4 (.code yX4_takeData cX4_takeData 7 none :: xG) 0 0) (hi : meth.name = yX4_takeData.name) (hroom : 0 + 2 ≤ R.frames ∧ 60 * (0 + 2) ≤ R.locals) {rr : xM} (hE : xEnd l D cA sA cX4_takeData 7 none R 0 0 none rr p e S0 m ag below meth c0 A0 M0 ad0 Z) (fu : Nat) (s : Nat) (x1 : Option Nat) (x2 : Int32) (M : xM) (h : F_X4_takeData fu s x1 x2 M = some rr) : xWx p l e R S0 m ag below meth c0 D cA A0 sA M0 ad0 7 Z 0 0 0 0 0 [(0, .inr (.inr (4, some s))), (1, .inr (.inr (0, x1))), (2, .inl x2)] [] M := by
  rw [← q_X4_takeData fu s x1 x2 M] at h
  have hT : ∀ w ∈ xG, w ∈ (Cond.code yX4_takeData cX4_takeData 7 none :: xG) := fun w hw => List.mem_cons_of_mem _ hw
  refine xrun_sound (nst := 0) (isInit := false) (kd := kdX4) X (xcls_mono hT xclsG) (xpool_mono hT plX4) (fun z => by cases z) (fun idx v hf => xkoE_mono hT (koX4_ok _ (xfind_mem hf))) (xents (ca := _) ?_) (endV hE).1 (endV hE).2 (xcuts (cu := _) ?_) pr_X4_takeData.1 pr_X4_takeData.2 _ _ _ _ _ _ _ _ (xat_ok pr_X4_takeData.1 pr_X4_takeData.2).1 (xat_ok pr_X4_takeData.1 pr_X4_takeData.2).2.1 (xat_ok pr_X4_takeData.1 pr_X4_takeData.2).2.2 h
  · exact (fun _ h => nomatch h)
  · refine (List.forall_mem_cons.mpr ⟨?_, (fun _ h => nomatch h)⟩)
    · intro bc bs ls st M h
      replace h := xz_some h
      obtain ⟨rfl, rfl, h⟩ := h
      replace h := lR_some h
      obtain ⟨o, e0, h⟩ := h
      replace h := bd_some h
      obtain ⟨s', rfl, h⟩ := h
      replace h := lR_some h
      obtain ⟨x1', e1, h⟩ := h
      replace h := lI_some h
      obtain ⟨x2', e2, h⟩ := h
      replace h := lI_some h
      obtain ⟨x3', e3, h⟩ := h
      replace h := lI_some h
      obtain ⟨x5', e5, h⟩ := h
      replace h := pI_some h
      obtain ⟨y0', st, rfl, h⟩ := h
      replace h := xe_some h
      obtain ⟨rfl, h⟩ := h
      exact xWx_ls (wx_X4_takeData_80 X hi hroom hE fu s' x1' x2' x3' x5' y0' M h) (List.forall_mem_cons.mpr ⟨e0, (List.forall_mem_cons.mpr ⟨e1, (List.forall_mem_cons.mpr ⟨e2, (List.forall_mem_cons.mpr ⟨e3, (List.forall_mem_cons.mpr ⟨e5, (fun _ h => nomatch h)⟩)⟩)⟩)⟩)⟩)

theorem ok_X4_takeData (l : Launch) (D : va_G) (cA : Nat → ClassId) (sA : Nat → Nat) (fu : Nat) (s : Nat) (x1 : Option Nat) (x2 : Int32) (M : xM) {rr : xM} (h : F_X4_takeData fu s x1 x2 M = some rr) : xMet l D cA sA yX4_takeData cX4_takeData 7 none xG (0 + 1) 0 0 [.inr (.inr (4, some s)), .inr (.inr (0, x1)), .inl x2] M none rr :=
  xmet_of (by decide +kernel) (Nat.le_of_ble_eq_true rfl) (fun p e s1 m ag below meth c0 A0 ad0 Z X hn hE => wx_X4_takeData X hn ⟨Nat.le_refl _, Nat.le_refl _⟩ hE fu s x1 x2 M h)
theorem hw_X4_takeData (l : Launch) (D : va_G) (cA : Nat → ClassId) (sA : Nat → Nat) (fu : Nat) {ρ : Type} {r0 : ρ} (kd1 : Nat) : ∀ (as : List xV) (M : xM) (k : Option xV → xM → Option ρ), w_X4_takeData fu as M k = some r0 → ∃ v M', xMet l D cA sA yX4_takeData cX4_takeData 7 none xG (0 + 1) 0 0 as M v M' ∧ k v M' = some r0 ∧ (kd1 ≠ 2 → ∃ a as', as = .inr (.inr (4, some a)) :: as') := by
  intro as M k h
  unfold w_X4_takeData at h
  replace h := pR_some h
  obtain ⟨o, as1, rfl, h⟩ := h
  replace h := bd_some h
  obtain ⟨s, rfl, h⟩ := h
  replace h := pR_some h
  obtain ⟨x1, as1, rfl, h⟩ := h
  replace h := pI_some h
  obtain ⟨x2, as1, rfl, h⟩ := h
  replace h := xe_some h
  obtain ⟨rfl, h⟩ := h
  obtain ⟨p1, hp, h⟩ := Option.bind_eq_some_iff.mp h
  exact ⟨_, _, ok_X4_takeData l D cA sA fu s x1 x2 M hp, h, fun _ => ⟨_, _, rfl⟩⟩
theorem lk_X4_59 : xLink xG RX4 59 0 yX4_takeData 2 := ⟨Or.inl (xg 1049 (by decide +kernel) (by decide +kernel)), (xg 1051 (by decide +kernel) (by decide +kernel)), (xg 26 (by decide +kernel) (by decide +kernel)), (xg 133 (by decide +kernel) (by decide +kernel)), ⟨4, by decide, TX4, 4, rfl⟩⟩
theorem lk_X4_33 : xLink xG RX4 33 0 yX0_isWhole 1 := ⟨Or.inl (xg 1043 (by decide +kernel) (by decide +kernel)), (xg 929 (by decide +kernel) (by decide +kernel)), (xg 930 (by decide +kernel) (by decide +kernel)), (xg 135 (by decide +kernel) (by decide +kernel)), ⟨0, by decide, TX0, 16, rfl⟩⟩
theorem lk_X4_37 : xLink xG RX4 37 0 yX4_takePart 2 := ⟨Or.inl (xg 1044 (by decide +kernel) (by decide +kernel)), (xg 1046 (by decide +kernel) (by decide +kernel)), (xg 25 (by decide +kernel) (by decide +kernel)), (xg 133 (by decide +kernel) (by decide +kernel)), ⟨4, by decide, TX4, 4, rfl⟩⟩
theorem lk_X4_24 : xLink xG RX4 24 0 yX4_clear 0 := ⟨Or.inl (xg 1039 (by decide +kernel) (by decide +kernel)), (xg 1041 (by decide +kernel) (by decide +kernel)), (xg 24 (by decide +kernel) (by decide +kernel)), (xg 133 (by decide +kernel) (by decide +kernel)), ⟨4, by decide, TX4, 4, rfl⟩⟩
theorem cd_X4_find : Cond.code yX4_find cX4_find 3 none ∈ xG := (xg 1038 (by decide +kernel) (by decide +kernel))
theorem pr_X4_find : (∀ e ∈ pX4_find, xrow cX4_find 3 kdX4 flX4 0 false RX4 e) ∧ xnext pX4_find = true := xrows (by decide +kernel)
set_option maxRecDepth 100000 in
theorem wx_X4_find_93 (X : xCtx p R S0 m ag c0 D cA A0 sA 3 cX4_find RX4 (.code yX4_find cX4_find 3 none :: xG) 0 0) (hi : meth.name = yX4_find.name) (hroom : 6 + 2 ≤ R.frames ∧ 60 * (6 + 2) ≤ R.locals) {rr : xM} (hE : xEnd l D cA sA cX4_find 3 none R 0 0 none rr p e S0 m ag below meth c0 A0 M0 ad0 Z) (fu : Nat) : ∀ (n : Nat) (s : Nat) (x1 : Option Nat) (x2 : Int32) (M : xM), L_X4_find_93 fu n s x1 x2 M = some rr → xWx p l e R S0 m ag below meth c0 D cA A0 sA M0 ad0 3 Z 0 0 93 0 0 [(0, .inr (.inr (4, some s))), (1, .inr (.inr (0, x1))), (2, .inl x2)] [] M := by
  intro n
  induction n with
  | zero => intro s x1 x2 M h; cases h
  | succ n ih =>
    intro s x1 x2 M h
    rw [← q_X4_find_93 fu n s x1 x2 M] at h
    have hT : ∀ w ∈ xG, w ∈ (Cond.code yX4_find cX4_find 3 none :: xG) := fun w hw => List.mem_cons_of_mem _ hw
    refine xrun_sound (nst := 0) (isInit := false) (kd := kdX4) X (xcls_mono hT xclsG) (xpool_mono hT plX4) (fun z => by cases z) (fun idx v hf => xkoE_mono hT (koX4_ok _ (xfind_mem hf))) (xents (ca := _) ?_) (endV hE).1 (endV hE).2 (xcuts (cu := _) ?_) pr_X4_find.1 pr_X4_find.2 _ _ _ _ _ _ _ _ (xat_ok pr_X4_find.1 pr_X4_find.2).1 (xat_ok pr_X4_find.1 pr_X4_find.2).2.1 (xat_ok pr_X4_find.1 pr_X4_find.2).2.2 h
    · exact (List.forall_mem_cons.mpr ⟨(xent_met X (ci := 4) hT cd_X4_takeData lk_X4_59 rfl (by decide) rfl (by decide +kernel) (fun z => absurd z (by decide)) (hw_X4_takeData l D cA sA fu 0) (fun _ => ⟨by decide, fun _ => ⟨TX4, 4, rfl⟩⟩) (by constructor <;> omega) (by decide)), (fun _ h => nomatch h)⟩)
    · refine (List.forall_mem_cons.mpr ⟨?_, (fun _ h => nomatch h)⟩)
      · intro bc bs ls st M h
        replace h := xz_some h
        obtain ⟨rfl, rfl, h⟩ := h
        replace h := lR_some h
        obtain ⟨o, e0, h⟩ := h
        replace h := bd_some h
        obtain ⟨s', rfl, h⟩ := h
        replace h := lR_some h
        obtain ⟨x1', e1, h⟩ := h
        replace h := lI_some h
        obtain ⟨x2', e2, h⟩ := h
        replace h := xe_some h
        obtain ⟨rfl, h⟩ := h
        exact xWx_ls (ih s' x1' x2' M h) (List.forall_mem_cons.mpr ⟨e0, (List.forall_mem_cons.mpr ⟨e1, (List.forall_mem_cons.mpr ⟨e2, (fun _ h => nomatch h)⟩)⟩)⟩)

set_option maxRecDepth 100000 in
theorem wx_X4_find_6 (X : xCtx p R S0 m ag c0 D cA A0 sA 3 cX4_find RX4 (.code yX4_find cX4_find 3 none :: xG) 0 0) (hi : meth.name = yX4_find.name) (hroom : 6 + 2 ≤ R.frames ∧ 60 * (6 + 2) ≤ R.locals) {rr : xM} (hE : xEnd l D cA sA cX4_find 3 none R 0 0 none rr p e S0 m ag below meth c0 A0 M0 ad0 Z) (fu : Nat) : ∀ (n : Nat) (s : Nat) (x1 : Option Nat) (x2 : Int32) (M : xM), L_X4_find_6 fu n s x1 x2 M = some rr → xWx p l e R S0 m ag below meth c0 D cA A0 sA M0 ad0 3 Z 0 0 6 0 0 [(0, .inr (.inr (4, some s))), (1, .inr (.inr (0, x1))), (2, .inl x2)] [] M := by
  intro n
  induction n with
  | zero => intro s x1 x2 M h; cases h
  | succ n ih =>
    intro s x1 x2 M h
    rw [← q_X4_find_6 fu n s x1 x2 M] at h
    have hT : ∀ w ∈ xG, w ∈ (Cond.code yX4_find cX4_find 3 none :: xG) := fun w hw => List.mem_cons_of_mem _ hw
    refine xrun_sound (nst := 0) (isInit := false) (kd := kdX4) X (xcls_mono hT xclsG) (xpool_mono hT plX4) (fun z => by cases z) (fun idx v hf => xkoE_mono hT (koX4_ok _ (xfind_mem hf))) (xents (ca := _) ?_) (endV hE).1 (endV hE).2 (xcuts (cu := _) ?_) pr_X4_find.1 pr_X4_find.2 _ _ _ _ _ _ _ _ (xat_ok pr_X4_find.1 pr_X4_find.2).1 (xat_ok pr_X4_find.1 pr_X4_find.2).2.1 (xat_ok pr_X4_find.1 pr_X4_find.2).2.2 h
    · exact (List.forall_mem_cons.mpr ⟨(xent_met X (ci := 0) hT cd_X0_isWhole lk_X4_33 rfl (by decide) rfl (by decide +kernel) (fun z => absurd z (by decide)) (hw_X0_isWhole l D cA sA fu 0) (fun _ => ⟨by decide, fun _ => ⟨TX0, 16, rfl⟩⟩) (by constructor <;> omega) (by decide)), (List.forall_mem_cons.mpr ⟨(xent_met X (ci := 4) hT cd_X4_takePart lk_X4_37 rfl (by decide) rfl (by decide +kernel) (fun z => absurd z (by decide)) (hw_X4_takePart l D cA sA fu 0) (fun _ => ⟨by decide, fun _ => ⟨TX4, 4, rfl⟩⟩) (by constructor <;> omega) (by decide)), (List.forall_mem_cons.mpr ⟨(xent_max X hT (xg 1048 (by decide +kernel) (by decide +kernel)) (xg 429 (by decide +kernel) (by decide +kernel)) (xg 136 (by decide +kernel) (by decide +kernel)) (xg 430 (by decide +kernel) (by decide +kernel)) rfl), (fun _ h => nomatch h)⟩)⟩)⟩)
    · refine (List.forall_mem_cons.mpr ⟨?_, (List.forall_mem_cons.mpr ⟨?_, (fun _ h => nomatch h)⟩)⟩)
      · intro bc bs ls st M h
        replace h := xz_some h
        obtain ⟨rfl, rfl, h⟩ := h
        replace h := lR_some h
        obtain ⟨o, e0, h⟩ := h
        replace h := bd_some h
        obtain ⟨s', rfl, h⟩ := h
        replace h := lR_some h
        obtain ⟨x1', e1, h⟩ := h
        replace h := lI_some h
        obtain ⟨x2', e2, h⟩ := h
        replace h := xe_some h
        obtain ⟨rfl, h⟩ := h
        exact xWx_ls (ih s' x1' x2' M h) (List.forall_mem_cons.mpr ⟨e0, (List.forall_mem_cons.mpr ⟨e1, (List.forall_mem_cons.mpr ⟨e2, (fun _ h => nomatch h)⟩)⟩)⟩)
      · intro bc bs ls st M h
        replace h := xz_some h
        obtain ⟨rfl, rfl, h⟩ := h
        replace h := lR_some h
        obtain ⟨o, e0, h⟩ := h
        replace h := bd_some h
        obtain ⟨s', rfl, h⟩ := h
        replace h := lR_some h
        obtain ⟨x1', e1, h⟩ := h
        replace h := lI_some h
        obtain ⟨x2', e2, h⟩ := h
        replace h := xe_some h
        obtain ⟨rfl, h⟩ := h
        exact xWx_ls (wx_X4_find_93 X hi hroom hE fu fu s' x1' x2' M h) (List.forall_mem_cons.mpr ⟨e0, (List.forall_mem_cons.mpr ⟨e1, (List.forall_mem_cons.mpr ⟨e2, (fun _ h => nomatch h)⟩)⟩)⟩)

set_option maxRecDepth 100000 in
theorem wx_X4_find (X : xCtx p R S0 m ag c0 D cA A0 sA 3 cX4_find RX4 (.code yX4_find cX4_find 3 none :: xG) 0 0) (hi : meth.name = yX4_find.name) (hroom : 6 + 2 ≤ R.frames ∧ 60 * (6 + 2) ≤ R.locals) {rr : xM} (hE : xEnd l D cA sA cX4_find 3 none R 0 0 none rr p e S0 m ag below meth c0 A0 M0 ad0 Z) (fu : Nat) (s : Nat) (x1 : Option Nat) (M : xM) (h : F_X4_find fu s x1 M = some rr) : xWx p l e R S0 m ag below meth c0 D cA A0 sA M0 ad0 3 Z 0 0 0 0 0 [(0, .inr (.inr (4, some s))), (1, .inr (.inr (0, x1)))] [] M := by
  rw [← q_X4_find fu s x1 M] at h
  have hT : ∀ w ∈ xG, w ∈ (Cond.code yX4_find cX4_find 3 none :: xG) := fun w hw => List.mem_cons_of_mem _ hw
  refine xrun_sound (nst := 0) (isInit := false) (kd := kdX4) X (xcls_mono hT xclsG) (xpool_mono hT plX4) (fun z => by cases z) (fun idx v hf => xkoE_mono hT (koX4_ok _ (xfind_mem hf))) (xents (ca := _) ?_) (endV hE).1 (endV hE).2 (xcuts (cu := _) ?_) pr_X4_find.1 pr_X4_find.2 _ _ _ _ _ _ _ _ (xat_ok pr_X4_find.1 pr_X4_find.2).1 (xat_ok pr_X4_find.1 pr_X4_find.2).2.1 (xat_ok pr_X4_find.1 pr_X4_find.2).2.2 h
  · exact (List.forall_mem_cons.mpr ⟨(xent_met X (ci := 4) hT cd_X4_clear lk_X4_24 rfl (by decide) rfl (by decide +kernel) (fun z => absurd z (by decide)) (hw_X4_clear l D cA sA fu 0) (fun _ => ⟨by decide, fun _ => ⟨TX4, 4, rfl⟩⟩) (by constructor <;> omega) (by decide)), (fun _ h => nomatch h)⟩)
  · refine (List.forall_mem_cons.mpr ⟨?_, (fun _ h => nomatch h)⟩)
    · intro bc bs ls st M h
      replace h := xz_some h
      obtain ⟨rfl, rfl, h⟩ := h
      replace h := lR_some h
      obtain ⟨o, e0, h⟩ := h
      replace h := bd_some h
      obtain ⟨s', rfl, h⟩ := h
      replace h := lR_some h
      obtain ⟨x1', e1, h⟩ := h
      replace h := lI_some h
      obtain ⟨x2', e2, h⟩ := h
      replace h := xe_some h
      obtain ⟨rfl, h⟩ := h
      exact xWx_ls (wx_X4_find_6 X hi hroom hE fu fu s' x1' x2' M h) (List.forall_mem_cons.mpr ⟨e0, (List.forall_mem_cons.mpr ⟨e1, (List.forall_mem_cons.mpr ⟨e2, (fun _ h => nomatch h)⟩)⟩)⟩)

theorem ok_X4_find (l : Launch) (D : va_G) (cA : Nat → ClassId) (sA : Nat → Nat) (fu : Nat) (s : Nat) (x1 : Option Nat) (M : xM) {rr : xM} (h : F_X4_find fu s x1 M = some rr) : xMet l D cA sA yX4_find cX4_find 3 none xG (6 + 1) 0 0 [.inr (.inr (4, some s)), .inr (.inr (0, x1))] M none rr :=
  xmet_of (by decide +kernel) (Nat.le_of_ble_eq_true rfl) (fun p e s1 m ag below meth c0 A0 ad0 Z X hn hE => wx_X4_find X hn ⟨Nat.le_refl _, Nat.le_refl _⟩ hE fu s x1 M h)
theorem hw_X4_find (l : Launch) (D : va_G) (cA : Nat → ClassId) (sA : Nat → Nat) (fu : Nat) {ρ : Type} {r0 : ρ} (kd1 : Nat) : ∀ (as : List xV) (M : xM) (k : Option xV → xM → Option ρ), w_X4_find fu as M k = some r0 → ∃ v M', xMet l D cA sA yX4_find cX4_find 3 none xG (6 + 1) 0 0 as M v M' ∧ k v M' = some r0 ∧ (kd1 ≠ 2 → ∃ a as', as = .inr (.inr (4, some a)) :: as') := by
  intro as M k h
  unfold w_X4_find at h
  replace h := pR_some h
  obtain ⟨o, as1, rfl, h⟩ := h
  replace h := bd_some h
  obtain ⟨s, rfl, h⟩ := h
  replace h := pR_some h
  obtain ⟨x1, as1, rfl, h⟩ := h
  replace h := xe_some h
  obtain ⟨rfl, h⟩ := h
  obtain ⟨p1, hp, h⟩ := Option.bind_eq_some_iff.mp h
  exact ⟨_, _, ok_X4_find l D cA sA fu s x1 M hp, h, fun _ => ⟨_, _, rfl⟩⟩
theorem cd_X2_firstUnmapped : Cond.code yX2_firstUnmapped cX2_firstUnmapped 3 (some .int) ∈ xG := (xg 997 (by decide +kernel) (by decide +kernel))
theorem pr_X2_firstUnmapped : (∀ e ∈ pX2_firstUnmapped, xrow cX2_firstUnmapped 3 kdX2 flX2 0 false RX2 e) ∧ xnext pX2_firstUnmapped = true := xrows (by decide +kernel)
set_option maxRecDepth 100000 in
theorem wx_X2_firstUnmapped_2 (X : xCtx p R S0 m ag c0 D cA A0 sA 3 cX2_firstUnmapped RX2 (.code yX2_firstUnmapped cX2_firstUnmapped 3 (some .int) :: xG) 0 0) (hi : meth.name = yX2_firstUnmapped.name) (hroom : 0 + 2 ≤ R.frames ∧ 60 * (0 + 2) ≤ R.locals) {rr : Int32 × xM} (hE : xEnd l D cA sA cX2_firstUnmapped 3 (some .int) R 0 0 (some (.inl rr.1)) rr.2 p e S0 m ag below meth c0 A0 M0 ad0 Z) (fu : Nat) : ∀ (n : Nat) (s : Nat) (x1 : Int32) (x2 : Int32) (M : xM), L_X2_firstUnmapped_2 fu n s x1 x2 M = some rr → xWx p l e R S0 m ag below meth c0 D cA A0 sA M0 ad0 3 Z 0 0 2 0 0 [(0, .inr (.inr (2, some s))), (1, .inl x1), (2, .inl x2)] [] M := by
  intro n
  induction n with
  | zero => intro s x1 x2 M h; cases h
  | succ n ih =>
    intro s x1 x2 M h
    rw [← q_X2_firstUnmapped_2 fu n s x1 x2 M] at h
    have hT : ∀ w ∈ xG, w ∈ (Cond.code yX2_firstUnmapped cX2_firstUnmapped 3 (some .int) :: xG) := fun w hw => List.mem_cons_of_mem _ hw
    refine xrun_sound (nst := 0) (isInit := false) (kd := kdX2) X (xcls_mono hT xclsG) (xpool_mono hT plX2) (fun z => by cases z) (fun idx v hf => xkoE_mono hT (koX2_ok _ (xfind_mem hf))) (xents (ca := _) ?_) (endI hE).1 (endI hE).2 (xcuts (cu := _) ?_) pr_X2_firstUnmapped.1 pr_X2_firstUnmapped.2 _ _ _ _ _ _ _ _ (xat_ok pr_X2_firstUnmapped.1 pr_X2_firstUnmapped.2).1 (xat_ok pr_X2_firstUnmapped.1 pr_X2_firstUnmapped.2).2.1 (xat_ok pr_X2_firstUnmapped.1 pr_X2_firstUnmapped.2).2.2 h
    · exact (fun _ h => nomatch h)
    · refine (List.forall_mem_cons.mpr ⟨?_, (fun _ h => nomatch h)⟩)
      · intro bc bs ls st M h
        replace h := xz_some h
        obtain ⟨rfl, rfl, h⟩ := h
        replace h := lR_some h
        obtain ⟨o, e0, h⟩ := h
        replace h := bd_some h
        obtain ⟨s', rfl, h⟩ := h
        replace h := lI_some h
        obtain ⟨x1', e1, h⟩ := h
        replace h := lI_some h
        obtain ⟨x2', e2, h⟩ := h
        replace h := xe_some h
        obtain ⟨rfl, h⟩ := h
        exact xWx_ls (ih s' x1' x2' M h) (List.forall_mem_cons.mpr ⟨e0, (List.forall_mem_cons.mpr ⟨e1, (List.forall_mem_cons.mpr ⟨e2, (fun _ h => nomatch h)⟩)⟩)⟩)

set_option maxRecDepth 100000 in
theorem wx_X2_firstUnmapped (X : xCtx p R S0 m ag c0 D cA A0 sA 3 cX2_firstUnmapped RX2 (.code yX2_firstUnmapped cX2_firstUnmapped 3 (some .int) :: xG) 0 0) (hi : meth.name = yX2_firstUnmapped.name) (hroom : 0 + 2 ≤ R.frames ∧ 60 * (0 + 2) ≤ R.locals) {rr : Int32 × xM} (hE : xEnd l D cA sA cX2_firstUnmapped 3 (some .int) R 0 0 (some (.inl rr.1)) rr.2 p e S0 m ag below meth c0 A0 M0 ad0 Z) (fu : Nat) (s : Nat) (x1 : Int32) (M : xM) (h : F_X2_firstUnmapped fu s x1 M = some rr) : xWx p l e R S0 m ag below meth c0 D cA A0 sA M0 ad0 3 Z 0 0 0 0 0 [(0, .inr (.inr (2, some s))), (1, .inl x1)] [] M := by
  rw [← q_X2_firstUnmapped fu s x1 M] at h
  have hT : ∀ w ∈ xG, w ∈ (Cond.code yX2_firstUnmapped cX2_firstUnmapped 3 (some .int) :: xG) := fun w hw => List.mem_cons_of_mem _ hw
  refine xrun_sound (nst := 0) (isInit := false) (kd := kdX2) X (xcls_mono hT xclsG) (xpool_mono hT plX2) (fun z => by cases z) (fun idx v hf => xkoE_mono hT (koX2_ok _ (xfind_mem hf))) (xents (ca := _) ?_) (endI hE).1 (endI hE).2 (xcuts (cu := _) ?_) pr_X2_firstUnmapped.1 pr_X2_firstUnmapped.2 _ _ _ _ _ _ _ _ (xat_ok pr_X2_firstUnmapped.1 pr_X2_firstUnmapped.2).1 (xat_ok pr_X2_firstUnmapped.1 pr_X2_firstUnmapped.2).2.1 (xat_ok pr_X2_firstUnmapped.1 pr_X2_firstUnmapped.2).2.2 h
  · exact (fun _ h => nomatch h)
  · refine (List.forall_mem_cons.mpr ⟨?_, (fun _ h => nomatch h)⟩)
    · intro bc bs ls st M h
      replace h := xz_some h
      obtain ⟨rfl, rfl, h⟩ := h
      replace h := lR_some h
      obtain ⟨o, e0, h⟩ := h
      replace h := bd_some h
      obtain ⟨s', rfl, h⟩ := h
      replace h := lI_some h
      obtain ⟨x1', e1, h⟩ := h
      replace h := lI_some h
      obtain ⟨x2', e2, h⟩ := h
      replace h := xe_some h
      obtain ⟨rfl, h⟩ := h
      exact xWx_ls (wx_X2_firstUnmapped_2 X hi hroom hE fu fu s' x1' x2' M h) (List.forall_mem_cons.mpr ⟨e0, (List.forall_mem_cons.mpr ⟨e1, (List.forall_mem_cons.mpr ⟨e2, (fun _ h => nomatch h)⟩)⟩)⟩)

theorem ok_X2_firstUnmapped (l : Launch) (D : va_G) (cA : Nat → ClassId) (sA : Nat → Nat) (fu : Nat) (s : Nat) (x1 : Int32) (M : xM) {rr : Int32 × xM} (h : F_X2_firstUnmapped fu s x1 M = some rr) : xMet l D cA sA yX2_firstUnmapped cX2_firstUnmapped 3 (some .int) xG (0 + 1) 0 0 [.inr (.inr (2, some s)), .inl x1] M (some (.inl rr.1)) rr.2 :=
  xmet_of (by decide +kernel) (Nat.le_of_ble_eq_true rfl) (fun p e s1 m ag below meth c0 A0 ad0 Z X hn hE => wx_X2_firstUnmapped X hn ⟨Nat.le_refl _, Nat.le_refl _⟩ hE fu s x1 M h)
theorem hw_X2_firstUnmapped (l : Launch) (D : va_G) (cA : Nat → ClassId) (sA : Nat → Nat) (fu : Nat) {ρ : Type} {r0 : ρ} (kd1 : Nat) : ∀ (as : List xV) (M : xM) (k : Option xV → xM → Option ρ), w_X2_firstUnmapped fu as M k = some r0 → ∃ v M', xMet l D cA sA yX2_firstUnmapped cX2_firstUnmapped 3 (some .int) xG (0 + 1) 0 0 as M v M' ∧ k v M' = some r0 ∧ (kd1 ≠ 2 → ∃ a as', as = .inr (.inr (2, some a)) :: as') := by
  intro as M k h
  unfold w_X2_firstUnmapped at h
  replace h := pR_some h
  obtain ⟨o, as1, rfl, h⟩ := h
  replace h := bd_some h
  obtain ⟨s, rfl, h⟩ := h
  replace h := pI_some h
  obtain ⟨x1, as1, rfl, h⟩ := h
  replace h := xe_some h
  obtain ⟨rfl, h⟩ := h
  obtain ⟨p1, hp, h⟩ := Option.bind_eq_some_iff.mp h
  exact ⟨_, _, ok_X2_firstUnmapped l D cA sA fu s x1 M hp, h, fun _ => ⟨_, _, rfl⟩⟩
theorem lk_X2_147 : xLink xG RX2 147 0 yX7_isPage 2 := ⟨Or.inl (xg 989 (by decide +kernel) (by decide +kernel)), (xg 990 (by decide +kernel) (by decide +kernel)), (xg 991 (by decide +kernel) (by decide +kernel)), (xg 130 (by decide +kernel) (by decide +kernel)), ⟨7, by decide, TX7, 9, rfl⟩⟩
theorem lk_X2_150 : xLink xG RX2 150 0 yX2_firstUnmapped 1 := ⟨Or.inl (xg 994 (by decide +kernel) (by decide +kernel)), (xg 996 (by decide +kernel) (by decide +kernel)), (xg 19 (by decide +kernel) (by decide +kernel)), (xg 134 (by decide +kernel) (by decide +kernel)), ⟨2, by decide, TX2, 16, rfl⟩⟩
theorem cd_X2_mayWrite : Cond.code yX2_mayWrite cX2_mayWrite 3 (some .boolean) ∈ xG := (xg 988 (by decide +kernel) (by decide +kernel))
theorem pr_X2_mayWrite : (∀ e ∈ pX2_mayWrite, xrow cX2_mayWrite 3 kdX2 flX2 0 false RX2 e) ∧ xnext pX2_mayWrite = true := xrows (by decide +kernel)
set_option maxRecDepth 100000 in
theorem wx_X2_mayWrite (X : xCtx p R S0 m ag c0 D cA A0 sA 3 cX2_mayWrite RX2 (.code yX2_mayWrite cX2_mayWrite 3 (some .boolean) :: xG) 0 0) (hi : meth.name = yX2_mayWrite.name) (hroom : 2 + 2 ≤ R.frames ∧ 60 * (2 + 2) ≤ R.locals) {rr : Int32 × xM} (hE : xEnd l D cA sA cX2_mayWrite 3 (some .boolean) R 0 0 (some (.inl rr.1)) rr.2 p e S0 m ag below meth c0 A0 M0 ad0 Z) (fu : Nat) (s : Nat) (x1 : Int32) (x2 : Int32) (M : xM) (h : F_X2_mayWrite fu s x1 x2 M = some rr) : xWx p l e R S0 m ag below meth c0 D cA A0 sA M0 ad0 3 Z 0 0 0 0 0 [(0, .inr (.inr (2, some s))), (1, .inl x1), (2, .inl x2)] [] M := by
  rw [← q_X2_mayWrite fu s x1 x2 M] at h
  have hT : ∀ w ∈ xG, w ∈ (Cond.code yX2_mayWrite cX2_mayWrite 3 (some .boolean) :: xG) := fun w hw => List.mem_cons_of_mem _ hw
  refine xrun_sound (nst := 0) (isInit := false) (kd := kdX2) X (xcls_mono hT xclsG) (xpool_mono hT plX2) (fun z => by cases z) (fun idx v hf => xkoE_mono hT (koX2_ok _ (xfind_mem hf))) (xents (ca := _) ?_) (endZ hE).1 (endZ hE).2 (xcuts (cu := _) ?_) pr_X2_mayWrite.1 pr_X2_mayWrite.2 _ _ _ _ _ _ _ _ (xat_ok pr_X2_mayWrite.1 pr_X2_mayWrite.2).1 (xat_ok pr_X2_mayWrite.1 pr_X2_mayWrite.2).2.1 (xat_ok pr_X2_mayWrite.1 pr_X2_mayWrite.2).2.2 h
  · exact (List.forall_mem_cons.mpr ⟨(xent_met X (ci := 7) hT cd_X7_isPage lk_X2_147 rfl (by decide) rfl (by decide +kernel) (fun z => absurd z (by decide)) (hw_X7_isPage l D cA sA fu 0) (fun _ => ⟨by decide, fun _ => ⟨TX7, 9, rfl⟩⟩) (by constructor <;> omega) (by decide)), (List.forall_mem_cons.mpr ⟨(xent_met X (ci := 2) hT cd_X2_firstUnmapped lk_X2_150 rfl (by decide) rfl (by decide +kernel) (fun z => absurd z (by decide)) (hw_X2_firstUnmapped l D cA sA fu 0) (fun _ => ⟨by decide, fun _ => ⟨TX2, 16, rfl⟩⟩) (by constructor <;> omega) (by decide)), (fun _ h => nomatch h)⟩)⟩)
  · exact (fun _ h => nomatch h)

theorem ok_X2_mayWrite (l : Launch) (D : va_G) (cA : Nat → ClassId) (sA : Nat → Nat) (fu : Nat) (s : Nat) (x1 : Int32) (x2 : Int32) (M : xM) {rr : Int32 × xM} (h : F_X2_mayWrite fu s x1 x2 M = some rr) : xMet l D cA sA yX2_mayWrite cX2_mayWrite 3 (some .boolean) xG (2 + 1) 0 0 [.inr (.inr (2, some s)), .inl x1, .inl x2] M (some (.inl rr.1)) rr.2 :=
  xmet_of (by decide +kernel) (Nat.le_of_ble_eq_true rfl) (fun p e s1 m ag below meth c0 A0 ad0 Z X hn hE => wx_X2_mayWrite X hn ⟨Nat.le_refl _, Nat.le_refl _⟩ hE fu s x1 x2 M h)
theorem hw_X2_mayWrite (l : Launch) (D : va_G) (cA : Nat → ClassId) (sA : Nat → Nat) (fu : Nat) {ρ : Type} {r0 : ρ} (kd1 : Nat) : ∀ (as : List xV) (M : xM) (k : Option xV → xM → Option ρ), w_X2_mayWrite fu as M k = some r0 → ∃ v M', xMet l D cA sA yX2_mayWrite cX2_mayWrite 3 (some .boolean) xG (2 + 1) 0 0 as M v M' ∧ k v M' = some r0 ∧ (kd1 ≠ 2 → ∃ a as', as = .inr (.inr (2, some a)) :: as') := by
  intro as M k h
  unfold w_X2_mayWrite at h
  replace h := pR_some h
  obtain ⟨o, as1, rfl, h⟩ := h
  replace h := bd_some h
  obtain ⟨s, rfl, h⟩ := h
  replace h := pI_some h
  obtain ⟨x1, as1, rfl, h⟩ := h
  replace h := pI_some h
  obtain ⟨x2, as1, rfl, h⟩ := h
  replace h := xe_some h
  obtain ⟨rfl, h⟩ := h
  obtain ⟨p1, hp, h⟩ := Option.bind_eq_some_iff.mp h
  exact ⟨_, _, ok_X2_mayWrite l D cA sA fu s x1 x2 M hp, h, fun _ => ⟨_, _, rfl⟩⟩
theorem cd_X2_isMappedTo : Cond.code yX2_isMappedTo cX2_isMappedTo 2 (some .boolean) ∈ xG := (xg 935 (by decide +kernel) (by decide +kernel))
theorem pr_X2_isMappedTo : (∀ e ∈ pX2_isMappedTo, xrow cX2_isMappedTo 2 kdX2 flX2 0 false RX2 e) ∧ xnext pX2_isMappedTo = true := xrows (by decide +kernel)
set_option maxRecDepth 100000 in
theorem wx_X2_isMappedTo (X : xCtx p R S0 m ag c0 D cA A0 sA 2 cX2_isMappedTo RX2 (.code yX2_isMappedTo cX2_isMappedTo 2 (some .boolean) :: xG) 0 0) (hi : meth.name = yX2_isMappedTo.name) (hroom : 0 + 2 ≤ R.frames ∧ 60 * (0 + 2) ≤ R.locals) {rr : Int32 × xM} (hE : xEnd l D cA sA cX2_isMappedTo 2 (some .boolean) R 0 0 (some (.inl rr.1)) rr.2 p e S0 m ag below meth c0 A0 M0 ad0 Z) (fu : Nat) (s : Nat) (x1 : Int32) (M : xM) (h : F_X2_isMappedTo fu s x1 M = some rr) : xWx p l e R S0 m ag below meth c0 D cA A0 sA M0 ad0 2 Z 0 0 0 0 0 [(0, .inr (.inr (2, some s))), (1, .inl x1)] [] M := by
  rw [← q_X2_isMappedTo fu s x1 M] at h
  have hT : ∀ w ∈ xG, w ∈ (Cond.code yX2_isMappedTo cX2_isMappedTo 2 (some .boolean) :: xG) := fun w hw => List.mem_cons_of_mem _ hw
  refine xrun_sound (nst := 0) (isInit := false) (kd := kdX2) X (xcls_mono hT xclsG) (xpool_mono hT plX2) (fun z => by cases z) (fun idx v hf => xkoE_mono hT (koX2_ok _ (xfind_mem hf))) (xents (ca := _) ?_) (endZ hE).1 (endZ hE).2 (xcuts (cu := _) ?_) pr_X2_isMappedTo.1 pr_X2_isMappedTo.2 _ _ _ _ _ _ _ _ (xat_ok pr_X2_isMappedTo.1 pr_X2_isMappedTo.2).1 (xat_ok pr_X2_isMappedTo.1 pr_X2_isMappedTo.2).2.1 (xat_ok pr_X2_isMappedTo.1 pr_X2_isMappedTo.2).2.2 h
  · exact (fun _ h => nomatch h)
  · exact (fun _ h => nomatch h)

theorem ok_X2_isMappedTo (l : Launch) (D : va_G) (cA : Nat → ClassId) (sA : Nat → Nat) (fu : Nat) (s : Nat) (x1 : Int32) (M : xM) {rr : Int32 × xM} (h : F_X2_isMappedTo fu s x1 M = some rr) : xMet l D cA sA yX2_isMappedTo cX2_isMappedTo 2 (some .boolean) xG (0 + 1) 0 0 [.inr (.inr (2, some s)), .inl x1] M (some (.inl rr.1)) rr.2 :=
  xmet_of (by decide +kernel) (Nat.le_of_ble_eq_true rfl) (fun p e s1 m ag below meth c0 A0 ad0 Z X hn hE => wx_X2_isMappedTo X hn ⟨Nat.le_refl _, Nat.le_refl _⟩ hE fu s x1 M h)
theorem hw_X2_isMappedTo (l : Launch) (D : va_G) (cA : Nat → ClassId) (sA : Nat → Nat) (fu : Nat) {ρ : Type} {r0 : ρ} (kd1 : Nat) : ∀ (as : List xV) (M : xM) (k : Option xV → xM → Option ρ), w_X2_isMappedTo fu as M k = some r0 → ∃ v M', xMet l D cA sA yX2_isMappedTo cX2_isMappedTo 2 (some .boolean) xG (0 + 1) 0 0 as M v M' ∧ k v M' = some r0 ∧ (kd1 ≠ 2 → ∃ a as', as = .inr (.inr (2, some a)) :: as') := by
  intro as M k h
  unfold w_X2_isMappedTo at h
  replace h := pR_some h
  obtain ⟨o, as1, rfl, h⟩ := h
  replace h := bd_some h
  obtain ⟨s, rfl, h⟩ := h
  replace h := pI_some h
  obtain ⟨x1, as1, rfl, h⟩ := h
  replace h := xe_some h
  obtain ⟨rfl, h⟩ := h
  obtain ⟨p1, hp, h⟩ := Option.bind_eq_some_iff.mp h
  exact ⟨_, _, ok_X2_isMappedTo l D cA sA fu s x1 M hp, h, fun _ => ⟨_, _, rfl⟩⟩
theorem lk_X2_276 : xLink xG RX2 276 0 yX0_isLeast 1 := ⟨Or.inl (xg 936 (by decide +kernel) (by decide +kernel)), (xg 937 (by decide +kernel) (by decide +kernel)), (xg 938 (by decide +kernel) (by decide +kernel)), (xg 135 (by decide +kernel) (by decide +kernel)), ⟨0, by decide, TX0, 16, rfl⟩⟩
theorem lk_X2_273 : xLink xG RX2 273 0 yX2_isMappedTo 1 := ⟨Or.inl (xg 932 (by decide +kernel) (by decide +kernel)), (xg 934 (by decide +kernel) (by decide +kernel)), (xg 18 (by decide +kernel) (by decide +kernel)), (xg 134 (by decide +kernel) (by decide +kernel)), ⟨2, by decide, TX2, 16, rfl⟩⟩
theorem lk_X2_264 : xLink xG RX2 264 0 yX0_isInJournal 1 := ⟨Or.inl (xg 924 (by decide +kernel) (by decide +kernel)), (xg 925 (by decide +kernel) (by decide +kernel)), (xg 926 (by decide +kernel) (by decide +kernel)), (xg 135 (by decide +kernel) (by decide +kernel)), ⟨0, by decide, TX0, 16, rfl⟩⟩
theorem lk_X2_267 : xLink xG RX2 267 0 yX0_isWhole 1 := ⟨Or.inl (xg 928 (by decide +kernel) (by decide +kernel)), (xg 929 (by decide +kernel) (by decide +kernel)), (xg 930 (by decide +kernel) (by decide +kernel)), (xg 135 (by decide +kernel) (by decide +kernel)), ⟨0, by decide, TX0, 16, rfl⟩⟩
theorem cd_X2_survey : Cond.code yX2_survey cX2_survey 5 none ∈ xG := (xg 923 (by decide +kernel) (by decide +kernel))
theorem pr_X2_survey : (∀ e ∈ pX2_survey, xrow cX2_survey 5 kdX2 flX2 0 false RX2 e) ∧ xnext pX2_survey = true := xrows (by decide +kernel)
set_option maxRecDepth 100000 in
theorem wx_X2_survey_172 (X : xCtx p R S0 m ag c0 D cA A0 sA 5 cX2_survey RX2 (.code yX2_survey cX2_survey 5 none :: xG) 0 0) (hi : meth.name = yX2_survey.name) (hroom : 1 + 2 ≤ R.frames ∧ 60 * (1 + 2) ≤ R.locals) {rr : xM} (hE : xEnd l D cA sA cX2_survey 5 none R 0 0 none rr p e S0 m ag below meth c0 A0 M0 ad0 Z) (fu : Nat) (k46 : Nat → Int32 → xM → Option xM) (hk46 : ∀ (s : Nat) (x1 : Int32) (M : xM), k46 s x1 M = some rr → xWx p l e R S0 m ag below meth c0 D cA A0 sA M0 ad0 5 Z 0 0 46 0 0 [(0, .inr (.inr (2, some s))), (1, .inl x1)] [] M) (s : Nat) (x1 : Int32) (y0 : Int32) (y1 : Int32) (y2 : Option Nat) (M : xM) (h : J_X2_survey_172 fu k46 s x1 y0 y1 y2 M = some rr) : xWx p l e R S0 m ag below meth c0 D cA A0 sA M0 ad0 5 Z 0 0 172 0 0 [(0, .inr (.inr (2, some s))), (1, .inl x1)] [.inl y0, .inl y1, .inr (.inr (22, y2))] M := by
  rw [← q_X2_survey_172 fu k46 s x1 y0 y1 y2 M] at h
  have hT : ∀ w ∈ xG, w ∈ (Cond.code yX2_survey cX2_survey 5 none :: xG) := fun w hw => List.mem_cons_of_mem _ hw
  refine xrun_sound (nst := 0) (isInit := false) (kd := kdX2) X (xcls_mono hT xclsG) (xpool_mono hT plX2) (fun z => by cases z) (fun idx v hf => xkoE_mono hT (koX2_ok _ (xfind_mem hf))) (xents (ca := _) ?_) (endV hE).1 (endV hE).2 (xcuts (cu := _) ?_) pr_X2_survey.1 pr_X2_survey.2 _ _ _ _ _ _ _ _ (xat_ok pr_X2_survey.1 pr_X2_survey.2).1 (xat_ok pr_X2_survey.1 pr_X2_survey.2).2.1 (xat_ok pr_X2_survey.1 pr_X2_survey.2).2.2 h
  · exact (fun _ h => nomatch h)
  · refine (List.forall_mem_cons.mpr ⟨?_, (fun _ h => nomatch h)⟩)
    · intro bc bs ls st M h
      replace h := xz_some h
      obtain ⟨rfl, rfl, h⟩ := h
      replace h := lR_some h
      obtain ⟨o, e0, h⟩ := h
      replace h := bd_some h
      obtain ⟨s', rfl, h⟩ := h
      replace h := lI_some h
      obtain ⟨x1', e1, h⟩ := h
      replace h := xe_some h
      obtain ⟨rfl, h⟩ := h
      exact xWx_ls (hk46 s' x1' M h) (List.forall_mem_cons.mpr ⟨e0, (List.forall_mem_cons.mpr ⟨e1, (fun _ h => nomatch h)⟩)⟩)

set_option maxRecDepth 100000 in
theorem wx_X2_survey_153 (X : xCtx p R S0 m ag c0 D cA A0 sA 5 cX2_survey RX2 (.code yX2_survey cX2_survey 5 none :: xG) 0 0) (hi : meth.name = yX2_survey.name) (hroom : 1 + 2 ≤ R.frames ∧ 60 * (1 + 2) ≤ R.locals) {rr : xM} (hE : xEnd l D cA sA cX2_survey 5 none R 0 0 none rr p e S0 m ag below meth c0 A0 M0 ad0 Z) (fu : Nat) (k46 : Nat → Int32 → xM → Option xM) (hk46 : ∀ (s : Nat) (x1 : Int32) (M : xM), k46 s x1 M = some rr → xWx p l e R S0 m ag below meth c0 D cA A0 sA M0 ad0 5 Z 0 0 46 0 0 [(0, .inr (.inr (2, some s))), (1, .inl x1)] [] M) (s : Nat) (x1 : Int32) (x3 : Int32) (x4 : Int32) (M : xM) (h : J_X2_survey_153 fu k46 s x1 x3 x4 M = some rr) : xWx p l e R S0 m ag below meth c0 D cA A0 sA M0 ad0 5 Z 0 0 153 0 0 [(0, .inr (.inr (2, some s))), (1, .inl x1), (3, .inl x3), (4, .inl x4)] [] M := by
  rw [← q_X2_survey_153 fu k46 s x1 x3 x4 M] at h
  have hT : ∀ w ∈ xG, w ∈ (Cond.code yX2_survey cX2_survey 5 none :: xG) := fun w hw => List.mem_cons_of_mem _ hw
  refine xrun_sound (nst := 0) (isInit := false) (kd := kdX2) X (xcls_mono hT xclsG) (xpool_mono hT plX2) (fun z => by cases z) (fun idx v hf => xkoE_mono hT (koX2_ok _ (xfind_mem hf))) (xents (ca := _) ?_) (endV hE).1 (endV hE).2 (xcuts (cu := _) ?_) pr_X2_survey.1 pr_X2_survey.2 _ _ _ _ _ _ _ _ (xat_ok pr_X2_survey.1 pr_X2_survey.2).1 (xat_ok pr_X2_survey.1 pr_X2_survey.2).2.1 (xat_ok pr_X2_survey.1 pr_X2_survey.2).2.2 h
  · exact (fun _ h => nomatch h)
  · refine (List.forall_mem_cons.mpr ⟨?_, (fun _ h => nomatch h)⟩)
    · intro bc bs ls st M h
      replace h := xz_some h
      obtain ⟨rfl, rfl, h⟩ := h
      replace h := lR_some h
      obtain ⟨o, e0, h⟩ := h
      replace h := bd_some h
      obtain ⟨s', rfl, h⟩ := h
      replace h := lI_some h
      obtain ⟨x1', e1, h⟩ := h
      replace h := pI_some h
      obtain ⟨y0', st, rfl, h⟩ := h
      replace h := pI_some h
      obtain ⟨y1', st, rfl, h⟩ := h
      replace h := pR_some h
      obtain ⟨y2', st, rfl, h⟩ := h
      replace h := xe_some h
      obtain ⟨rfl, h⟩ := h
      exact xWx_ls (wx_X2_survey_172 X hi hroom hE fu k46 hk46 s' x1' y0' y1' y2' M h) (List.forall_mem_cons.mpr ⟨e0, (List.forall_mem_cons.mpr ⟨e1, (fun _ h => nomatch h)⟩)⟩)

set_option maxRecDepth 100000 in
theorem wx_X2_survey_132 (X : xCtx p R S0 m ag c0 D cA A0 sA 5 cX2_survey RX2 (.code yX2_survey cX2_survey 5 none :: xG) 0 0) (hi : meth.name = yX2_survey.name) (hroom : 1 + 2 ≤ R.frames ∧ 60 * (1 + 2) ≤ R.locals) {rr : xM} (hE : xEnd l D cA sA cX2_survey 5 none R 0 0 none rr p e S0 m ag below meth c0 A0 M0 ad0 Z) (fu : Nat) (k46 : Nat → Int32 → xM → Option xM) (hk46 : ∀ (s : Nat) (x1 : Int32) (M : xM), k46 s x1 M = some rr → xWx p l e R S0 m ag below meth c0 D cA A0 sA M0 ad0 5 Z 0 0 46 0 0 [(0, .inr (.inr (2, some s))), (1, .inl x1)] [] M) (s : Nat) (x1 : Int32) (x2 : Int32) (x3 : Int32) (y0 : Int32) (M : xM) (h : J_X2_survey_132 fu k46 s x1 x2 x3 y0 M = some rr) : xWx p l e R S0 m ag below meth c0 D cA A0 sA M0 ad0 5 Z 0 0 132 0 0 [(0, .inr (.inr (2, some s))), (1, .inl x1), (2, .inl x2), (3, .inl x3)] [.inl y0] M := by
  rw [← q_X2_survey_132 fu k46 s x1 x2 x3 y0 M] at h
  have hT : ∀ w ∈ xG, w ∈ (Cond.code yX2_survey cX2_survey 5 none :: xG) := fun w hw => List.mem_cons_of_mem _ hw
  refine xrun_sound (nst := 0) (isInit := false) (kd := kdX2) X (xcls_mono hT xclsG) (xpool_mono hT plX2) (fun z => by cases z) (fun idx v hf => xkoE_mono hT (koX2_ok _ (xfind_mem hf))) (xents (ca := _) ?_) (endV hE).1 (endV hE).2 (xcuts (cu := _) ?_) pr_X2_survey.1 pr_X2_survey.2 _ _ _ _ _ _ _ _ (xat_ok pr_X2_survey.1 pr_X2_survey.2).1 (xat_ok pr_X2_survey.1 pr_X2_survey.2).2.1 (xat_ok pr_X2_survey.1 pr_X2_survey.2).2.2 h
  · exact (fun _ h => nomatch h)
  · refine (List.forall_mem_cons.mpr ⟨?_, (fun _ h => nomatch h)⟩)
    · intro bc bs ls st M h
      replace h := xz_some h
      obtain ⟨rfl, rfl, h⟩ := h
      replace h := lR_some h
      obtain ⟨o, e0, h⟩ := h
      replace h := bd_some h
      obtain ⟨s', rfl, h⟩ := h
      replace h := lI_some h
      obtain ⟨x1', e1, h⟩ := h
      replace h := lI_some h
      obtain ⟨x3', e3, h⟩ := h
      replace h := lI_some h
      obtain ⟨x4', e4, h⟩ := h
      replace h := xe_some h
      obtain ⟨rfl, h⟩ := h
      exact xWx_ls (wx_X2_survey_153 X hi hroom hE fu k46 hk46 s' x1' x3' x4' M h) (List.forall_mem_cons.mpr ⟨e0, (List.forall_mem_cons.mpr ⟨e1, (List.forall_mem_cons.mpr ⟨e3, (List.forall_mem_cons.mpr ⟨e4, (fun _ h => nomatch h)⟩)⟩)⟩)⟩)

set_option maxRecDepth 100000 in
theorem wx_X2_survey_116 (X : xCtx p R S0 m ag c0 D cA A0 sA 5 cX2_survey RX2 (.code yX2_survey cX2_survey 5 none :: xG) 0 0) (hi : meth.name = yX2_survey.name) (hroom : 1 + 2 ≤ R.frames ∧ 60 * (1 + 2) ≤ R.locals) {rr : xM} (hE : xEnd l D cA sA cX2_survey 5 none R 0 0 none rr p e S0 m ag below meth c0 A0 M0 ad0 Z) (fu : Nat) (k46 : Nat → Int32 → xM → Option xM) (hk46 : ∀ (s : Nat) (x1 : Int32) (M : xM), k46 s x1 M = some rr → xWx p l e R S0 m ag below meth c0 D cA A0 sA M0 ad0 5 Z 0 0 46 0 0 [(0, .inr (.inr (2, some s))), (1, .inl x1)] [] M) (s : Nat) (x1 : Int32) (x2 : Int32) (x3 : Int32) (M : xM) (h : J_X2_survey_116 fu k46 s x1 x2 x3 M = some rr) : xWx p l e R S0 m ag below meth c0 D cA A0 sA M0 ad0 5 Z 0 0 116 0 0 [(0, .inr (.inr (2, some s))), (1, .inl x1), (2, .inl x2), (3, .inl x3)] [] M := by
  rw [← q_X2_survey_116 fu k46 s x1 x2 x3 M] at h
  have hT : ∀ w ∈ xG, w ∈ (Cond.code yX2_survey cX2_survey 5 none :: xG) := fun w hw => List.mem_cons_of_mem _ hw
  refine xrun_sound (nst := 0) (isInit := false) (kd := kdX2) X (xcls_mono hT xclsG) (xpool_mono hT plX2) (fun z => by cases z) (fun idx v hf => xkoE_mono hT (koX2_ok _ (xfind_mem hf))) (xents (ca := _) ?_) (endV hE).1 (endV hE).2 (xcuts (cu := _) ?_) pr_X2_survey.1 pr_X2_survey.2 _ _ _ _ _ _ _ _ (xat_ok pr_X2_survey.1 pr_X2_survey.2).1 (xat_ok pr_X2_survey.1 pr_X2_survey.2).2.1 (xat_ok pr_X2_survey.1 pr_X2_survey.2).2.2 h
  · exact (List.forall_mem_cons.mpr ⟨(xent_met X (ci := 0) hT cd_X0_isLeast lk_X2_276 rfl (by decide) rfl (by decide +kernel) (fun z => absurd z (by decide)) (hw_X0_isLeast l D cA sA fu 0) (fun _ => ⟨by decide, fun _ => ⟨TX0, 16, rfl⟩⟩) (by constructor <;> omega) (by decide)), (fun _ h => nomatch h)⟩)
  · refine (List.forall_mem_cons.mpr ⟨?_, (fun _ h => nomatch h)⟩)
    · intro bc bs ls st M h
      replace h := xz_some h
      obtain ⟨rfl, rfl, h⟩ := h
      replace h := lR_some h
      obtain ⟨o, e0, h⟩ := h
      replace h := bd_some h
      obtain ⟨s', rfl, h⟩ := h
      replace h := lI_some h
      obtain ⟨x1', e1, h⟩ := h
      replace h := lI_some h
      obtain ⟨x2', e2, h⟩ := h
      replace h := lI_some h
      obtain ⟨x3', e3, h⟩ := h
      replace h := pI_some h
      obtain ⟨y0', st, rfl, h⟩ := h
      replace h := xe_some h
      obtain ⟨rfl, h⟩ := h
      exact xWx_ls (wx_X2_survey_132 X hi hroom hE fu k46 hk46 s' x1' x2' x3' y0' M h) (List.forall_mem_cons.mpr ⟨e0, (List.forall_mem_cons.mpr ⟨e1, (List.forall_mem_cons.mpr ⟨e2, (List.forall_mem_cons.mpr ⟨e3, (fun _ h => nomatch h)⟩)⟩)⟩)⟩)

set_option maxRecDepth 100000 in
theorem wx_X2_survey_107 (X : xCtx p R S0 m ag c0 D cA A0 sA 5 cX2_survey RX2 (.code yX2_survey cX2_survey 5 none :: xG) 0 0) (hi : meth.name = yX2_survey.name) (hroom : 1 + 2 ≤ R.frames ∧ 60 * (1 + 2) ≤ R.locals) {rr : xM} (hE : xEnd l D cA sA cX2_survey 5 none R 0 0 none rr p e S0 m ag below meth c0 A0 M0 ad0 Z) (fu : Nat) (k46 : Nat → Int32 → xM → Option xM) (hk46 : ∀ (s : Nat) (x1 : Int32) (M : xM), k46 s x1 M = some rr → xWx p l e R S0 m ag below meth c0 D cA A0 sA M0 ad0 5 Z 0 0 46 0 0 [(0, .inr (.inr (2, some s))), (1, .inl x1)] [] M) (s : Nat) (x1 : Int32) (x2 : Int32) (y0 : Int32) (M : xM) (h : J_X2_survey_107 fu k46 s x1 x2 y0 M = some rr) : xWx p l e R S0 m ag below meth c0 D cA A0 sA M0 ad0 5 Z 0 0 107 0 0 [(0, .inr (.inr (2, some s))), (1, .inl x1), (2, .inl x2)] [.inl y0] M := by
  rw [← q_X2_survey_107 fu k46 s x1 x2 y0 M] at h
  have hT : ∀ w ∈ xG, w ∈ (Cond.code yX2_survey cX2_survey 5 none :: xG) := fun w hw => List.mem_cons_of_mem _ hw
  refine xrun_sound (nst := 0) (isInit := false) (kd := kdX2) X (xcls_mono hT xclsG) (xpool_mono hT plX2) (fun z => by cases z) (fun idx v hf => xkoE_mono hT (koX2_ok _ (xfind_mem hf))) (xents (ca := _) ?_) (endV hE).1 (endV hE).2 (xcuts (cu := _) ?_) pr_X2_survey.1 pr_X2_survey.2 _ _ _ _ _ _ _ _ (xat_ok pr_X2_survey.1 pr_X2_survey.2).1 (xat_ok pr_X2_survey.1 pr_X2_survey.2).2.1 (xat_ok pr_X2_survey.1 pr_X2_survey.2).2.2 h
  · exact (fun _ h => nomatch h)
  · refine (List.forall_mem_cons.mpr ⟨?_, (List.forall_mem_cons.mpr ⟨?_, (fun _ h => nomatch h)⟩)⟩)
    · intro bc bs ls st M h
      replace h := xz_some h
      obtain ⟨rfl, rfl, h⟩ := h
      replace h := lR_some h
      obtain ⟨o, e0, h⟩ := h
      replace h := bd_some h
      obtain ⟨s', rfl, h⟩ := h
      replace h := lI_some h
      obtain ⟨x1', e1, h⟩ := h
      replace h := lI_some h
      obtain ⟨x2', e2, h⟩ := h
      replace h := lI_some h
      obtain ⟨x3', e3, h⟩ := h
      replace h := xe_some h
      obtain ⟨rfl, h⟩ := h
      exact xWx_ls (wx_X2_survey_116 X hi hroom hE fu k46 hk46 s' x1' x2' x3' M h) (List.forall_mem_cons.mpr ⟨e0, (List.forall_mem_cons.mpr ⟨e1, (List.forall_mem_cons.mpr ⟨e2, (List.forall_mem_cons.mpr ⟨e3, (fun _ h => nomatch h)⟩)⟩)⟩)⟩)
    · intro bc bs ls st M h
      replace h := xz_some h
      obtain ⟨rfl, rfl, h⟩ := h
      replace h := lR_some h
      obtain ⟨o, e0, h⟩ := h
      replace h := bd_some h
      obtain ⟨s', rfl, h⟩ := h
      replace h := lI_some h
      obtain ⟨x1', e1, h⟩ := h
      replace h := lI_some h
      obtain ⟨x2', e2, h⟩ := h
      replace h := lI_some h
      obtain ⟨x3', e3, h⟩ := h
      replace h := pI_some h
      obtain ⟨y0', st, rfl, h⟩ := h
      replace h := xe_some h
      obtain ⟨rfl, h⟩ := h
      exact xWx_ls (wx_X2_survey_132 X hi hroom hE fu k46 hk46 s' x1' x2' x3' y0' M h) (List.forall_mem_cons.mpr ⟨e0, (List.forall_mem_cons.mpr ⟨e1, (List.forall_mem_cons.mpr ⟨e2, (List.forall_mem_cons.mpr ⟨e3, (fun _ h => nomatch h)⟩)⟩)⟩)⟩)

set_option maxRecDepth 100000 in
theorem wx_X2_survey_94 (X : xCtx p R S0 m ag c0 D cA A0 sA 5 cX2_survey RX2 (.code yX2_survey cX2_survey 5 none :: xG) 0 0) (hi : meth.name = yX2_survey.name) (hroom : 1 + 2 ≤ R.frames ∧ 60 * (1 + 2) ≤ R.locals) {rr : xM} (hE : xEnd l D cA sA cX2_survey 5 none R 0 0 none rr p e S0 m ag below meth c0 A0 M0 ad0 Z) (fu : Nat) (k46 : Nat → Int32 → xM → Option xM) (hk46 : ∀ (s : Nat) (x1 : Int32) (M : xM), k46 s x1 M = some rr → xWx p l e R S0 m ag below meth c0 D cA A0 sA M0 ad0 5 Z 0 0 46 0 0 [(0, .inr (.inr (2, some s))), (1, .inl x1)] [] M) (s : Nat) (x1 : Int32) (x2 : Int32) (M : xM) (h : J_X2_survey_94 fu k46 s x1 x2 M = some rr) : xWx p l e R S0 m ag below meth c0 D cA A0 sA M0 ad0 5 Z 0 0 94 0 0 [(0, .inr (.inr (2, some s))), (1, .inl x1), (2, .inl x2)] [] M := by
  rw [← q_X2_survey_94 fu k46 s x1 x2 M] at h
  have hT : ∀ w ∈ xG, w ∈ (Cond.code yX2_survey cX2_survey 5 none :: xG) := fun w hw => List.mem_cons_of_mem _ hw
  refine xrun_sound (nst := 0) (isInit := false) (kd := kdX2) X (xcls_mono hT xclsG) (xpool_mono hT plX2) (fun z => by cases z) (fun idx v hf => xkoE_mono hT (koX2_ok _ (xfind_mem hf))) (xents (ca := _) ?_) (endV hE).1 (endV hE).2 (xcuts (cu := _) ?_) pr_X2_survey.1 pr_X2_survey.2 _ _ _ _ _ _ _ _ (xat_ok pr_X2_survey.1 pr_X2_survey.2).1 (xat_ok pr_X2_survey.1 pr_X2_survey.2).2.1 (xat_ok pr_X2_survey.1 pr_X2_survey.2).2.2 h
  · exact (List.forall_mem_cons.mpr ⟨(xent_met X (ci := 2) hT cd_X2_isMappedTo lk_X2_273 rfl (by decide) rfl (by decide +kernel) (fun z => absurd z (by decide)) (hw_X2_isMappedTo l D cA sA fu 0) (fun _ => ⟨by decide, fun _ => ⟨TX2, 16, rfl⟩⟩) (by constructor <;> omega) (by decide)), (fun _ h => nomatch h)⟩)
  · refine (List.forall_mem_cons.mpr ⟨?_, (fun _ h => nomatch h)⟩)
    · intro bc bs ls st M h
      replace h := xz_some h
      obtain ⟨rfl, rfl, h⟩ := h
      replace h := lR_some h
      obtain ⟨o, e0, h⟩ := h
      replace h := bd_some h
      obtain ⟨s', rfl, h⟩ := h
      replace h := lI_some h
      obtain ⟨x1', e1, h⟩ := h
      replace h := lI_some h
      obtain ⟨x2', e2, h⟩ := h
      replace h := pI_some h
      obtain ⟨y0', st, rfl, h⟩ := h
      replace h := xe_some h
      obtain ⟨rfl, h⟩ := h
      exact xWx_ls (wx_X2_survey_107 X hi hroom hE fu k46 hk46 s' x1' x2' y0' M h) (List.forall_mem_cons.mpr ⟨e0, (List.forall_mem_cons.mpr ⟨e1, (List.forall_mem_cons.mpr ⟨e2, (fun _ h => nomatch h)⟩)⟩)⟩)

set_option maxRecDepth 100000 in
theorem wx_X2_survey_46 (X : xCtx p R S0 m ag c0 D cA A0 sA 5 cX2_survey RX2 (.code yX2_survey cX2_survey 5 none :: xG) 0 0) (hi : meth.name = yX2_survey.name) (hroom : 1 + 2 ≤ R.frames ∧ 60 * (1 + 2) ≤ R.locals) {rr : xM} (hE : xEnd l D cA sA cX2_survey 5 none R 0 0 none rr p e S0 m ag below meth c0 A0 M0 ad0 Z) (fu : Nat) : ∀ (n : Nat) (s : Nat) (x1 : Int32) (M : xM), L_X2_survey_46 fu n s x1 M = some rr → xWx p l e R S0 m ag below meth c0 D cA A0 sA M0 ad0 5 Z 0 0 46 0 0 [(0, .inr (.inr (2, some s))), (1, .inl x1)] [] M := by
  intro n
  induction n with
  | zero => intro s x1 M h; cases h
  | succ n ih =>
    intro s x1 M h
    rw [← q_X2_survey_46 fu n s x1 M] at h
    have hT : ∀ w ∈ xG, w ∈ (Cond.code yX2_survey cX2_survey 5 none :: xG) := fun w hw => List.mem_cons_of_mem _ hw
    refine xrun_sound (nst := 0) (isInit := false) (kd := kdX2) X (xcls_mono hT xclsG) (xpool_mono hT plX2) (fun z => by cases z) (fun idx v hf => xkoE_mono hT (koX2_ok _ (xfind_mem hf))) (xents (ca := _) ?_) (endV hE).1 (endV hE).2 (xcuts (cu := _) ?_) pr_X2_survey.1 pr_X2_survey.2 _ _ _ _ _ _ _ _ (xat_ok pr_X2_survey.1 pr_X2_survey.2).1 (xat_ok pr_X2_survey.1 pr_X2_survey.2).2.1 (xat_ok pr_X2_survey.1 pr_X2_survey.2).2.2 h
    · exact (List.forall_mem_cons.mpr ⟨(xent_met X (ci := 0) hT cd_X0_isInJournal lk_X2_264 rfl (by decide) rfl (by decide +kernel) (fun z => absurd z (by decide)) (hw_X0_isInJournal l D cA sA fu 0) (fun _ => ⟨by decide, fun _ => ⟨TX0, 16, rfl⟩⟩) (by constructor <;> omega) (by decide)), (List.forall_mem_cons.mpr ⟨(xent_met X (ci := 0) hT cd_X0_isWhole lk_X2_267 rfl (by decide) rfl (by decide +kernel) (fun z => absurd z (by decide)) (hw_X0_isWhole l D cA sA fu 0) (fun _ => ⟨by decide, fun _ => ⟨TX0, 16, rfl⟩⟩) (by constructor <;> omega) (by decide)), (fun _ h => nomatch h)⟩)⟩)
    · refine (List.forall_mem_cons.mpr ⟨?_, (List.forall_mem_cons.mpr ⟨?_, (fun _ h => nomatch h)⟩)⟩)
      · intro bc bs ls st M h
        replace h := xz_some h
        obtain ⟨rfl, rfl, h⟩ := h
        replace h := lR_some h
        obtain ⟨o, e0, h⟩ := h
        replace h := bd_some h
        obtain ⟨s', rfl, h⟩ := h
        replace h := lI_some h
        obtain ⟨x1', e1, h⟩ := h
        replace h := lI_some h
        obtain ⟨x2', e2, h⟩ := h
        replace h := xe_some h
        obtain ⟨rfl, h⟩ := h
        exact xWx_ls (wx_X2_survey_94 X hi hroom hE fu _ ih s' x1' x2' M h) (List.forall_mem_cons.mpr ⟨e0, (List.forall_mem_cons.mpr ⟨e1, (List.forall_mem_cons.mpr ⟨e2, (fun _ h => nomatch h)⟩)⟩)⟩)
      · intro bc bs ls st M h
        replace h := xz_some h
        obtain ⟨rfl, rfl, h⟩ := h
        replace h := lR_some h
        obtain ⟨o, e0, h⟩ := h
        replace h := bd_some h
        obtain ⟨s', rfl, h⟩ := h
        replace h := lI_some h
        obtain ⟨x1', e1, h⟩ := h
        replace h := lI_some h
        obtain ⟨x2', e2, h⟩ := h
        replace h := pI_some h
        obtain ⟨y0', st, rfl, h⟩ := h
        replace h := xe_some h
        obtain ⟨rfl, h⟩ := h
        exact xWx_ls (wx_X2_survey_107 X hi hroom hE fu _ ih s' x1' x2' y0' M h) (List.forall_mem_cons.mpr ⟨e0, (List.forall_mem_cons.mpr ⟨e1, (List.forall_mem_cons.mpr ⟨e2, (fun _ h => nomatch h)⟩)⟩)⟩)

set_option maxRecDepth 100000 in
theorem wx_X2_survey_25 (X : xCtx p R S0 m ag c0 D cA A0 sA 5 cX2_survey RX2 (.code yX2_survey cX2_survey 5 none :: xG) 0 0) (hi : meth.name = yX2_survey.name) (hroom : 1 + 2 ≤ R.frames ∧ 60 * (1 + 2) ≤ R.locals) {rr : xM} (hE : xEnd l D cA sA cX2_survey 5 none R 0 0 none rr p e S0 m ag below meth c0 A0 M0 ad0 Z) (fu : Nat) : ∀ (n : Nat) (s : Nat) (x1 : Int32) (M : xM), L_X2_survey_25 fu n s x1 M = some rr → xWx p l e R S0 m ag below meth c0 D cA A0 sA M0 ad0 5 Z 0 0 25 0 0 [(0, .inr (.inr (2, some s))), (1, .inl x1)] [] M := by
  intro n
  induction n with
  | zero => intro s x1 M h; cases h
  | succ n ih =>
    intro s x1 M h
    rw [← q_X2_survey_25 fu n s x1 M] at h
    have hT : ∀ w ∈ xG, w ∈ (Cond.code yX2_survey cX2_survey 5 none :: xG) := fun w hw => List.mem_cons_of_mem _ hw
    refine xrun_sound (nst := 0) (isInit := false) (kd := kdX2) X (xcls_mono hT xclsG) (xpool_mono hT plX2) (fun z => by cases z) (fun idx v hf => xkoE_mono hT (koX2_ok _ (xfind_mem hf))) (xents (ca := _) ?_) (endV hE).1 (endV hE).2 (xcuts (cu := _) ?_) pr_X2_survey.1 pr_X2_survey.2 _ _ _ _ _ _ _ _ (xat_ok pr_X2_survey.1 pr_X2_survey.2).1 (xat_ok pr_X2_survey.1 pr_X2_survey.2).2.1 (xat_ok pr_X2_survey.1 pr_X2_survey.2).2.2 h
    · exact (fun _ h => nomatch h)
    · refine (List.forall_mem_cons.mpr ⟨?_, (List.forall_mem_cons.mpr ⟨?_, (fun _ h => nomatch h)⟩)⟩)
      · intro bc bs ls st M h
        replace h := xz_some h
        obtain ⟨rfl, rfl, h⟩ := h
        replace h := lR_some h
        obtain ⟨o, e0, h⟩ := h
        replace h := bd_some h
        obtain ⟨s', rfl, h⟩ := h
        replace h := lI_some h
        obtain ⟨x1', e1, h⟩ := h
        replace h := xe_some h
        obtain ⟨rfl, h⟩ := h
        exact xWx_ls (ih s' x1' M h) (List.forall_mem_cons.mpr ⟨e0, (List.forall_mem_cons.mpr ⟨e1, (fun _ h => nomatch h)⟩)⟩)
      · intro bc bs ls st M h
        replace h := xz_some h
        obtain ⟨rfl, rfl, h⟩ := h
        replace h := lR_some h
        obtain ⟨o, e0, h⟩ := h
        replace h := bd_some h
        obtain ⟨s', rfl, h⟩ := h
        replace h := lI_some h
        obtain ⟨x1', e1, h⟩ := h
        replace h := xe_some h
        obtain ⟨rfl, h⟩ := h
        exact xWx_ls (wx_X2_survey_46 X hi hroom hE fu fu s' x1' M h) (List.forall_mem_cons.mpr ⟨e0, (List.forall_mem_cons.mpr ⟨e1, (fun _ h => nomatch h)⟩)⟩)

set_option maxRecDepth 100000 in
theorem wx_X2_survey (X : xCtx p R S0 m ag c0 D cA A0 sA 5 cX2_survey RX2 (.code yX2_survey cX2_survey 5 none :: xG) 0 0) (hi : meth.name = yX2_survey.name) (hroom : 1 + 2 ≤ R.frames ∧ 60 * (1 + 2) ≤ R.locals) {rr : xM} (hE : xEnd l D cA sA cX2_survey 5 none R 0 0 none rr p e S0 m ag below meth c0 A0 M0 ad0 Z) (fu : Nat) (s : Nat) (M : xM) (h : F_X2_survey fu s M = some rr) : xWx p l e R S0 m ag below meth c0 D cA A0 sA M0 ad0 5 Z 0 0 0 0 0 [(0, .inr (.inr (2, some s)))] [] M := by
  rw [← q_X2_survey fu s M] at h
  have hT : ∀ w ∈ xG, w ∈ (Cond.code yX2_survey cX2_survey 5 none :: xG) := fun w hw => List.mem_cons_of_mem _ hw
  refine xrun_sound (nst := 0) (isInit := false) (kd := kdX2) X (xcls_mono hT xclsG) (xpool_mono hT plX2) (fun z => by cases z) (fun idx v hf => xkoE_mono hT (koX2_ok _ (xfind_mem hf))) (xents (ca := _) ?_) (endV hE).1 (endV hE).2 (xcuts (cu := _) ?_) pr_X2_survey.1 pr_X2_survey.2 _ _ _ _ _ _ _ _ (xat_ok pr_X2_survey.1 pr_X2_survey.2).1 (xat_ok pr_X2_survey.1 pr_X2_survey.2).2.1 (xat_ok pr_X2_survey.1 pr_X2_survey.2).2.2 h
  · exact (fun _ h => nomatch h)
  · refine (List.forall_mem_cons.mpr ⟨?_, (fun _ h => nomatch h)⟩)
    · intro bc bs ls st M h
      replace h := xz_some h
      obtain ⟨rfl, rfl, h⟩ := h
      replace h := lR_some h
      obtain ⟨o, e0, h⟩ := h
      replace h := bd_some h
      obtain ⟨s', rfl, h⟩ := h
      replace h := lI_some h
      obtain ⟨x1', e1, h⟩ := h
      replace h := xe_some h
      obtain ⟨rfl, h⟩ := h
      exact xWx_ls (wx_X2_survey_25 X hi hroom hE fu fu s' x1' M h) (List.forall_mem_cons.mpr ⟨e0, (List.forall_mem_cons.mpr ⟨e1, (fun _ h => nomatch h)⟩)⟩)

theorem ok_X2_survey (l : Launch) (D : va_G) (cA : Nat → ClassId) (sA : Nat → Nat) (fu : Nat) (s : Nat) (M : xM) {rr : xM} (h : F_X2_survey fu s M = some rr) : xMet l D cA sA yX2_survey cX2_survey 5 none xG (1 + 1) 0 0 [.inr (.inr (2, some s))] M none rr :=
  xmet_of (by decide +kernel) (Nat.le_of_ble_eq_true rfl) (fun p e s1 m ag below meth c0 A0 ad0 Z X hn hE => wx_X2_survey X hn ⟨Nat.le_refl _, Nat.le_refl _⟩ hE fu s M h)
theorem hw_X2_survey (l : Launch) (D : va_G) (cA : Nat → ClassId) (sA : Nat → Nat) (fu : Nat) {ρ : Type} {r0 : ρ} (kd1 : Nat) : ∀ (as : List xV) (M : xM) (k : Option xV → xM → Option ρ), w_X2_survey fu as M k = some r0 → ∃ v M', xMet l D cA sA yX2_survey cX2_survey 5 none xG (1 + 1) 0 0 as M v M' ∧ k v M' = some r0 ∧ (kd1 ≠ 2 → ∃ a as', as = .inr (.inr (2, some a)) :: as') := by
  intro as M k h
  unfold w_X2_survey at h
  replace h := pR_some h
  obtain ⟨o, as1, rfl, h⟩ := h
  replace h := bd_some h
  obtain ⟨s, rfl, h⟩ := h
  replace h := xe_some h
  obtain ⟨rfl, h⟩ := h
  obtain ⟨p1, hp, h⟩ := Option.bind_eq_some_iff.mp h
  exact ⟨_, _, ok_X2_survey l D cA sA fu s M hp, h, fun _ => ⟨_, _, rfl⟩⟩
theorem cd_X8_joined : Cond.code yX8_joined cX8_joined 3 (some .int) ∈ xG := (xg 1008 (by decide +kernel) (by decide +kernel))
theorem pr_X8_joined : (∀ e ∈ pX8_joined, xrow cX8_joined 3 kdX8 flX8 0 false RX8 e) ∧ xnext pX8_joined = true := xrows (by decide +kernel)
set_option maxRecDepth 100000 in
theorem wx_X8_joined (X : xCtx p R S0 m ag c0 D cA A0 sA 3 cX8_joined RX8 (.code yX8_joined cX8_joined 3 (some .int) :: xG) 0 0) (hi : meth.name = yX8_joined.name) (hroom : 0 + 2 ≤ R.frames ∧ 60 * (0 + 2) ≤ R.locals) {rr : Int32 × xM} (hE : xEnd l D cA sA cX8_joined 3 (some .int) R 0 0 (some (.inl rr.1)) rr.2 p e S0 m ag below meth c0 A0 M0 ad0 Z) (fu : Nat) (x0 : Int32) (x1 : Int32) (x2 : Int32) (M : xM) (h : F_X8_joined fu x0 x1 x2 M = some rr) : xWx p l e R S0 m ag below meth c0 D cA A0 sA M0 ad0 3 Z 0 0 0 0 0 [(0, .inl x0), (1, .inl x1), (2, .inl x2)] [] M := by
  rw [← q_X8_joined fu x0 x1 x2 M] at h
  have hT : ∀ w ∈ xG, w ∈ (Cond.code yX8_joined cX8_joined 3 (some .int) :: xG) := fun w hw => List.mem_cons_of_mem _ hw
  refine xrun_sound (nst := 0) (isInit := false) (kd := kdX8) X (xcls_mono hT xclsG) (xpool_mono hT plX8) (fun z => by cases z) (fun idx v hf => xkoE_mono hT (koX8_ok _ (xfind_mem hf))) (xents (ca := _) ?_) (endI hE).1 (endI hE).2 (xcuts (cu := _) ?_) pr_X8_joined.1 pr_X8_joined.2 _ _ _ _ _ _ _ _ (xat_ok pr_X8_joined.1 pr_X8_joined.2).1 (xat_ok pr_X8_joined.1 pr_X8_joined.2).2.1 (xat_ok pr_X8_joined.1 pr_X8_joined.2).2.2 h
  · exact (fun _ h => nomatch h)
  · exact (fun _ h => nomatch h)

theorem ok_X8_joined (l : Launch) (D : va_G) (cA : Nat → ClassId) (sA : Nat → Nat) (fu : Nat) (x0 : Int32) (x1 : Int32) (x2 : Int32) (M : xM) {rr : Int32 × xM} (h : F_X8_joined fu x0 x1 x2 M = some rr) : xMet l D cA sA yX8_joined cX8_joined 3 (some .int) xG (0 + 1) 0 0 [.inl x0, .inl x1, .inl x2] M (some (.inl rr.1)) rr.2 :=
  xmet_of (by decide +kernel) (Nat.le_of_ble_eq_true rfl) (fun p e s1 m ag below meth c0 A0 ad0 Z X hn hE => wx_X8_joined X hn ⟨Nat.le_refl _, Nat.le_refl _⟩ hE fu x0 x1 x2 M h)
theorem hw_X8_joined (l : Launch) (D : va_G) (cA : Nat → ClassId) (sA : Nat → Nat) (fu : Nat) {ρ : Type} {r0 : ρ} (kd1 : Nat) (hk2 : kd1 = 2) : ∀ (as : List xV) (M : xM) (k : Option xV → xM → Option ρ), w_X8_joined fu as M k = some r0 → ∃ v M', xMet l D cA sA yX8_joined cX8_joined 3 (some .int) xG (0 + 1) 0 0 as M v M' ∧ k v M' = some r0 ∧ (kd1 ≠ 2 → ∃ a as', as = .inr (.inr (8, some a)) :: as') := by
  intro as M k h
  unfold w_X8_joined at h
  replace h := pI_some h
  obtain ⟨x0, as1, rfl, h⟩ := h
  replace h := pI_some h
  obtain ⟨x1, as1, rfl, h⟩ := h
  replace h := pI_some h
  obtain ⟨x2, as1, rfl, h⟩ := h
  replace h := xe_some h
  obtain ⟨rfl, h⟩ := h
  obtain ⟨p1, hp, h⟩ := Option.bind_eq_some_iff.mp h
  exact ⟨_, _, ok_X8_joined l D cA sA fu x0 x1 x2 M hp, h, fun z => absurd hk2 z⟩
theorem lk_X8_69 : xLink xG RX8 69 2 yX8_joined 3 := ⟨(xg 1006 (by decide +kernel) (by decide +kernel)), (xg 1007 (by decide +kernel) (by decide +kernel)), (xg 131 (by decide +kernel) (by decide +kernel))⟩
theorem cd_X8_value : Cond.code yX8_value cX8_value 8 (some .int) ∈ xG := (xg 1005 (by decide +kernel) (by decide +kernel))
theorem pr_X8_value : (∀ e ∈ pX8_value, xrow cX8_value 8 kdX8 flX8 0 false RX8 e) ∧ xnext pX8_value = true := xrows (by decide +kernel)
set_option maxRecDepth 100000 in
theorem wx_X8_value_140 (X : xCtx p R S0 m ag c0 D cA A0 sA 8 cX8_value RX8 (.code yX8_value cX8_value 8 (some .int) :: xG) 0 0) (hi : meth.name = yX8_value.name) (hroom : 1 + 2 ≤ R.frames ∧ 60 * (1 + 2) ≤ R.locals) {rr : Int32 × xM} (hE : xEnd l D cA sA cX8_value 8 (some .int) R 0 0 (some (.inl rr.1)) rr.2 p e S0 m ag below meth c0 A0 M0 ad0 Z) (fu : Nat) (k35 : Nat → Int32 → Int32 → xM → Option (Int32 × xM)) (hk35 : ∀ (s : Nat) (x5 : Int32) (x6 : Int32) (M : xM), k35 s x5 x6 M = some rr → xWx p l e R S0 m ag below meth c0 D cA A0 sA M0 ad0 8 Z 0 0 35 0 0 [(0, .inr (.inr (8, some s))), (5, .inl x5), (6, .inl x6)] [] M) (s : Nat) (x5 : Int32) (x6 : Int32) (x7 : Int32) (M : xM) (h : J_X8_value_140 fu k35 s x5 x6 x7 M = some rr) : xWx p l e R S0 m ag below meth c0 D cA A0 sA M0 ad0 8 Z 0 0 140 0 0 [(0, .inr (.inr (8, some s))), (5, .inl x5), (6, .inl x6), (7, .inl x7)] [] M := by
  rw [← q_X8_value_140 fu k35 s x5 x6 x7 M] at h
  have hT : ∀ w ∈ xG, w ∈ (Cond.code yX8_value cX8_value 8 (some .int) :: xG) := fun w hw => List.mem_cons_of_mem _ hw
  refine xrun_sound (nst := 0) (isInit := false) (kd := kdX8) X (xcls_mono hT xclsG) (xpool_mono hT plX8) (fun z => by cases z) (fun idx v hf => xkoE_mono hT (koX8_ok _ (xfind_mem hf))) (xents (ca := _) ?_) (endI hE).1 (endI hE).2 (xcuts (cu := _) ?_) pr_X8_value.1 pr_X8_value.2 _ _ _ _ _ _ _ _ (xat_ok pr_X8_value.1 pr_X8_value.2).1 (xat_ok pr_X8_value.1 pr_X8_value.2).2.1 (xat_ok pr_X8_value.1 pr_X8_value.2).2.2 h
  · exact (List.forall_mem_cons.mpr ⟨(xent_met X (ci := 8) hT cd_X8_joined lk_X8_69 rfl (by decide) rfl (by decide +kernel) (fun z => absurd z (by decide)) (hw_X8_joined l D cA sA fu 2 rfl) (fun z => absurd rfl z) (by constructor <;> omega) (by decide)), (fun _ h => nomatch h)⟩)
  · refine (List.forall_mem_cons.mpr ⟨?_, (fun _ h => nomatch h)⟩)
    · intro bc bs ls st M h
      replace h := xz_some h
      obtain ⟨rfl, rfl, h⟩ := h
      replace h := lR_some h
      obtain ⟨o, e0, h⟩ := h
      replace h := bd_some h
      obtain ⟨s', rfl, h⟩ := h
      replace h := lI_some h
      obtain ⟨x5', e5, h⟩ := h
      replace h := lI_some h
      obtain ⟨x6', e6, h⟩ := h
      replace h := xe_some h
      obtain ⟨rfl, h⟩ := h
      exact xWx_ls (hk35 s' x5' x6' M h) (List.forall_mem_cons.mpr ⟨e0, (List.forall_mem_cons.mpr ⟨e5, (List.forall_mem_cons.mpr ⟨e6, (fun _ h => nomatch h)⟩)⟩)⟩)

set_option maxRecDepth 100000 in
theorem wx_X8_value_99 (X : xCtx p R S0 m ag c0 D cA A0 sA 8 cX8_value RX8 (.code yX8_value cX8_value 8 (some .int) :: xG) 0 0) (hi : meth.name = yX8_value.name) (hroom : 1 + 2 ≤ R.frames ∧ 60 * (1 + 2) ≤ R.locals) {rr : Int32 × xM} (hE : xEnd l D cA sA cX8_value 8 (some .int) R 0 0 (some (.inl rr.1)) rr.2 p e S0 m ag below meth c0 A0 M0 ad0 Z) (fu : Nat) (k35 : Nat → Int32 → Int32 → xM → Option (Int32 × xM)) (hk35 : ∀ (s : Nat) (x5 : Int32) (x6 : Int32) (M : xM), k35 s x5 x6 M = some rr → xWx p l e R S0 m ag below meth c0 D cA A0 sA M0 ad0 8 Z 0 0 35 0 0 [(0, .inr (.inr (8, some s))), (5, .inl x5), (6, .inl x6)] [] M) (s : Nat) (x5 : Int32) (x6 : Int32) (x7 : Int32) (M : xM) (h : J_X8_value_99 fu k35 s x5 x6 x7 M = some rr) : xWx p l e R S0 m ag below meth c0 D cA A0 sA M0 ad0 8 Z 0 0 99 0 0 [(0, .inr (.inr (8, some s))), (5, .inl x5), (6, .inl x6), (7, .inl x7)] [] M := by
  rw [← q_X8_value_99 fu k35 s x5 x6 x7 M] at h
  have hT : ∀ w ∈ xG, w ∈ (Cond.code yX8_value cX8_value 8 (some .int) :: xG) := fun w hw => List.mem_cons_of_mem _ hw
  refine xrun_sound (nst := 0) (isInit := false) (kd := kdX8) X (xcls_mono hT xclsG) (xpool_mono hT plX8) (fun z => by cases z) (fun idx v hf => xkoE_mono hT (koX8_ok _ (xfind_mem hf))) (xents (ca := _) ?_) (endI hE).1 (endI hE).2 (xcuts (cu := _) ?_) pr_X8_value.1 pr_X8_value.2 _ _ _ _ _ _ _ _ (xat_ok pr_X8_value.1 pr_X8_value.2).1 (xat_ok pr_X8_value.1 pr_X8_value.2).2.1 (xat_ok pr_X8_value.1 pr_X8_value.2).2.2 h
  · exact (fun _ h => nomatch h)
  · refine (List.forall_mem_cons.mpr ⟨?_, (List.forall_mem_cons.mpr ⟨?_, (fun _ h => nomatch h)⟩)⟩)
    · intro bc bs ls st M h
      replace h := xz_some h
      obtain ⟨rfl, rfl, h⟩ := h
      replace h := lR_some h
      obtain ⟨o, e0, h⟩ := h
      replace h := bd_some h
      obtain ⟨s', rfl, h⟩ := h
      replace h := lI_some h
      obtain ⟨x5', e5, h⟩ := h
      replace h := lI_some h
      obtain ⟨x6', e6, h⟩ := h
      replace h := xe_some h
      obtain ⟨rfl, h⟩ := h
      exact xWx_ls (hk35 s' x5' x6' M h) (List.forall_mem_cons.mpr ⟨e0, (List.forall_mem_cons.mpr ⟨e5, (List.forall_mem_cons.mpr ⟨e6, (fun _ h => nomatch h)⟩)⟩)⟩)
    · intro bc bs ls st M h
      replace h := xz_some h
      obtain ⟨rfl, rfl, h⟩ := h
      replace h := lR_some h
      obtain ⟨o, e0, h⟩ := h
      replace h := bd_some h
      obtain ⟨s', rfl, h⟩ := h
      replace h := lI_some h
      obtain ⟨x5', e5, h⟩ := h
      replace h := lI_some h
      obtain ⟨x6', e6, h⟩ := h
      replace h := lI_some h
      obtain ⟨x7', e7, h⟩ := h
      replace h := xe_some h
      obtain ⟨rfl, h⟩ := h
      exact xWx_ls (wx_X8_value_140 X hi hroom hE fu k35 hk35 s' x5' x6' x7' M h) (List.forall_mem_cons.mpr ⟨e0, (List.forall_mem_cons.mpr ⟨e5, (List.forall_mem_cons.mpr ⟨e6, (List.forall_mem_cons.mpr ⟨e7, (fun _ h => nomatch h)⟩)⟩)⟩)⟩)

set_option maxRecDepth 100000 in
theorem wx_X8_value_35 (X : xCtx p R S0 m ag c0 D cA A0 sA 8 cX8_value RX8 (.code yX8_value cX8_value 8 (some .int) :: xG) 0 0) (hi : meth.name = yX8_value.name) (hroom : 1 + 2 ≤ R.frames ∧ 60 * (1 + 2) ≤ R.locals) {rr : Int32 × xM} (hE : xEnd l D cA sA cX8_value 8 (some .int) R 0 0 (some (.inl rr.1)) rr.2 p e S0 m ag below meth c0 A0 M0 ad0 Z) (fu : Nat) : ∀ (n : Nat) (s : Nat) (x5 : Int32) (x6 : Int32) (M : xM), L_X8_value_35 fu n s x5 x6 M = some rr → xWx p l e R S0 m ag below meth c0 D cA A0 sA M0 ad0 8 Z 0 0 35 0 0 [(0, .inr (.inr (8, some s))), (5, .inl x5), (6, .inl x6)] [] M := by
  intro n
  induction n with
  | zero => intro s x5 x6 M h; cases h
  | succ n ih =>
    intro s x5 x6 M h
    rw [← q_X8_value_35 fu n s x5 x6 M] at h
    have hT : ∀ w ∈ xG, w ∈ (Cond.code yX8_value cX8_value 8 (some .int) :: xG) := fun w hw => List.mem_cons_of_mem _ hw
    refine xrun_sound (nst := 0) (isInit := false) (kd := kdX8) X (xcls_mono hT xclsG) (xpool_mono hT plX8) (fun z => by cases z) (fun idx v hf => xkoE_mono hT (koX8_ok _ (xfind_mem hf))) (xents (ca := _) ?_) (endI hE).1 (endI hE).2 (xcuts (cu := _) ?_) pr_X8_value.1 pr_X8_value.2 _ _ _ _ _ _ _ _ (xat_ok pr_X8_value.1 pr_X8_value.2).1 (xat_ok pr_X8_value.1 pr_X8_value.2).2.1 (xat_ok pr_X8_value.1 pr_X8_value.2).2.2 h
    · exact (fun _ h => nomatch h)
    · refine (List.forall_mem_cons.mpr ⟨?_, (List.forall_mem_cons.mpr ⟨?_, (fun _ h => nomatch h)⟩)⟩)
      · intro bc bs ls st M h
        replace h := xz_some h
        obtain ⟨rfl, rfl, h⟩ := h
        replace h := lR_some h
        obtain ⟨o, e0, h⟩ := h
        replace h := bd_some h
        obtain ⟨s', rfl, h⟩ := h
        replace h := lI_some h
        obtain ⟨x5', e5, h⟩ := h
        replace h := lI_some h
        obtain ⟨x6', e6, h⟩ := h
        replace h := xe_some h
        obtain ⟨rfl, h⟩ := h
        exact xWx_ls (ih s' x5' x6' M h) (List.forall_mem_cons.mpr ⟨e0, (List.forall_mem_cons.mpr ⟨e5, (List.forall_mem_cons.mpr ⟨e6, (fun _ h => nomatch h)⟩)⟩)⟩)
      · intro bc bs ls st M h
        replace h := xz_some h
        obtain ⟨rfl, rfl, h⟩ := h
        replace h := lR_some h
        obtain ⟨o, e0, h⟩ := h
        replace h := bd_some h
        obtain ⟨s', rfl, h⟩ := h
        replace h := lI_some h
        obtain ⟨x5', e5, h⟩ := h
        replace h := lI_some h
        obtain ⟨x6', e6, h⟩ := h
        replace h := lI_some h
        obtain ⟨x7', e7, h⟩ := h
        replace h := xe_some h
        obtain ⟨rfl, h⟩ := h
        exact xWx_ls (wx_X8_value_99 X hi hroom hE fu _ ih s' x5' x6' x7' M h) (List.forall_mem_cons.mpr ⟨e0, (List.forall_mem_cons.mpr ⟨e5, (List.forall_mem_cons.mpr ⟨e6, (List.forall_mem_cons.mpr ⟨e7, (fun _ h => nomatch h)⟩)⟩)⟩)⟩)

set_option maxRecDepth 100000 in
theorem wx_X8_value (X : xCtx p R S0 m ag c0 D cA A0 sA 8 cX8_value RX8 (.code yX8_value cX8_value 8 (some .int) :: xG) 0 0) (hi : meth.name = yX8_value.name) (hroom : 1 + 2 ≤ R.frames ∧ 60 * (1 + 2) ≤ R.locals) {rr : Int32 × xM} (hE : xEnd l D cA sA cX8_value 8 (some .int) R 0 0 (some (.inl rr.1)) rr.2 p e S0 m ag below meth c0 A0 M0 ad0 Z) (fu : Nat) (s : Nat) (x1 : Int32) (x2 : Int32) (x3 : Int32) (x4 : Int32) (M : xM) (h : F_X8_value fu s x1 x2 x3 x4 M = some rr) : xWx p l e R S0 m ag below meth c0 D cA A0 sA M0 ad0 8 Z 0 0 0 0 0 [(0, .inr (.inr (8, some s))), (1, .inl x1), (2, .inl x2), (3, .inl x3), (4, .inl x4)] [] M := by
  rw [← q_X8_value fu s x1 x2 x3 x4 M] at h
  have hT : ∀ w ∈ xG, w ∈ (Cond.code yX8_value cX8_value 8 (some .int) :: xG) := fun w hw => List.mem_cons_of_mem _ hw
  refine xrun_sound (nst := 0) (isInit := false) (kd := kdX8) X (xcls_mono hT xclsG) (xpool_mono hT plX8) (fun z => by cases z) (fun idx v hf => xkoE_mono hT (koX8_ok _ (xfind_mem hf))) (xents (ca := _) ?_) (endI hE).1 (endI hE).2 (xcuts (cu := _) ?_) pr_X8_value.1 pr_X8_value.2 _ _ _ _ _ _ _ _ (xat_ok pr_X8_value.1 pr_X8_value.2).1 (xat_ok pr_X8_value.1 pr_X8_value.2).2.1 (xat_ok pr_X8_value.1 pr_X8_value.2).2.2 h
  · exact (fun _ h => nomatch h)
  · refine (List.forall_mem_cons.mpr ⟨?_, (fun _ h => nomatch h)⟩)
    · intro bc bs ls st M h
      replace h := xz_some h
      obtain ⟨rfl, rfl, h⟩ := h
      replace h := lR_some h
      obtain ⟨o, e0, h⟩ := h
      replace h := bd_some h
      obtain ⟨s', rfl, h⟩ := h
      replace h := lI_some h
      obtain ⟨x5', e5, h⟩ := h
      replace h := lI_some h
      obtain ⟨x6', e6, h⟩ := h
      replace h := xe_some h
      obtain ⟨rfl, h⟩ := h
      exact xWx_ls (wx_X8_value_35 X hi hroom hE fu fu s' x5' x6' M h) (List.forall_mem_cons.mpr ⟨e0, (List.forall_mem_cons.mpr ⟨e5, (List.forall_mem_cons.mpr ⟨e6, (fun _ h => nomatch h)⟩)⟩)⟩)

theorem ok_X8_value (l : Launch) (D : va_G) (cA : Nat → ClassId) (sA : Nat → Nat) (fu : Nat) (s : Nat) (x1 : Int32) (x2 : Int32) (x3 : Int32) (x4 : Int32) (M : xM) {rr : Int32 × xM} (h : F_X8_value fu s x1 x2 x3 x4 M = some rr) : xMet l D cA sA yX8_value cX8_value 8 (some .int) xG (1 + 1) 0 0 [.inr (.inr (8, some s)), .inl x1, .inl x2, .inl x3, .inl x4] M (some (.inl rr.1)) rr.2 :=
  xmet_of (by decide +kernel) (Nat.le_of_ble_eq_true rfl) (fun p e s1 m ag below meth c0 A0 ad0 Z X hn hE => wx_X8_value X hn ⟨Nat.le_refl _, Nat.le_refl _⟩ hE fu s x1 x2 x3 x4 M h)
theorem hw_X8_value (l : Launch) (D : va_G) (cA : Nat → ClassId) (sA : Nat → Nat) (fu : Nat) {ρ : Type} {r0 : ρ} (kd1 : Nat) : ∀ (as : List xV) (M : xM) (k : Option xV → xM → Option ρ), w_X8_value fu as M k = some r0 → ∃ v M', xMet l D cA sA yX8_value cX8_value 8 (some .int) xG (1 + 1) 0 0 as M v M' ∧ k v M' = some r0 ∧ (kd1 ≠ 2 → ∃ a as', as = .inr (.inr (8, some a)) :: as') := by
  intro as M k h
  unfold w_X8_value at h
  replace h := pR_some h
  obtain ⟨o, as1, rfl, h⟩ := h
  replace h := bd_some h
  obtain ⟨s, rfl, h⟩ := h
  replace h := pI_some h
  obtain ⟨x1, as1, rfl, h⟩ := h
  replace h := pI_some h
  obtain ⟨x2, as1, rfl, h⟩ := h
  replace h := pI_some h
  obtain ⟨x3, as1, rfl, h⟩ := h
  replace h := pI_some h
  obtain ⟨x4, as1, rfl, h⟩ := h
  replace h := xe_some h
  obtain ⟨rfl, h⟩ := h
  obtain ⟨p1, hp, h⟩ := Option.bind_eq_some_iff.mp h
  exact ⟨_, _, ok_X8_value l D cA sA fu s x1 x2 x3 x4 M hp, h, fun _ => ⟨_, _, rfl⟩⟩
theorem lk_X2_174 : xLink xG RX2 174 0 yX2_survey 0 := ⟨Or.inl (xg 920 (by decide +kernel) (by decide +kernel)), (xg 921 (by decide +kernel) (by decide +kernel)), (xg 922 (by decide +kernel) (by decide +kernel)), (xg 134 (by decide +kernel) (by decide +kernel)), ⟨2, by decide, TX2, 16, rfl⟩⟩
theorem lk_X2_186 : xLink xG RX2 186 0 yX8_value 4 := ⟨Or.inl (xg 1002 (by decide +kernel) (by decide +kernel)), (xg 1003 (by decide +kernel) (by decide +kernel)), (xg 1004 (by decide +kernel) (by decide +kernel)), (xg 131 (by decide +kernel) (by decide +kernel)), ⟨8, by decide, TX8, 4, rfl⟩⟩
theorem cd_X2_wantsCollect : Cond.code yX2_wantsCollect cX2_wantsCollect 2 (some .boolean) ∈ xG := (xg 1001 (by decide +kernel) (by decide +kernel))
theorem pr_X2_wantsCollect : (∀ e ∈ pX2_wantsCollect, xrow cX2_wantsCollect 2 kdX2 flX2 0 false RX2 e) ∧ xnext pX2_wantsCollect = true := xrows (by decide +kernel)
set_option maxRecDepth 100000 in
theorem wx_X2_wantsCollect (X : xCtx p R S0 m ag c0 D cA A0 sA 2 cX2_wantsCollect RX2 (.code yX2_wantsCollect cX2_wantsCollect 2 (some .boolean) :: xG) 0 0) (hi : meth.name = yX2_wantsCollect.name) (hroom : 2 + 2 ≤ R.frames ∧ 60 * (2 + 2) ≤ R.locals) {rr : Int32 × xM} (hE : xEnd l D cA sA cX2_wantsCollect 2 (some .boolean) R 0 0 (some (.inl rr.1)) rr.2 p e S0 m ag below meth c0 A0 M0 ad0 Z) (fu : Nat) (s : Nat) (M : xM) (h : F_X2_wantsCollect fu s M = some rr) : xWx p l e R S0 m ag below meth c0 D cA A0 sA M0 ad0 2 Z 0 0 0 0 0 [(0, .inr (.inr (2, some s)))] [] M := by
  rw [← q_X2_wantsCollect fu s M] at h
  have hT : ∀ w ∈ xG, w ∈ (Cond.code yX2_wantsCollect cX2_wantsCollect 2 (some .boolean) :: xG) := fun w hw => List.mem_cons_of_mem _ hw
  refine xrun_sound (nst := 0) (isInit := false) (kd := kdX2) X (xcls_mono hT xclsG) (xpool_mono hT plX2) (fun z => by cases z) (fun idx v hf => xkoE_mono hT (koX2_ok _ (xfind_mem hf))) (xents (ca := _) ?_) (endZ hE).1 (endZ hE).2 (xcuts (cu := _) ?_) pr_X2_wantsCollect.1 pr_X2_wantsCollect.2 _ _ _ _ _ _ _ _ (xat_ok pr_X2_wantsCollect.1 pr_X2_wantsCollect.2).1 (xat_ok pr_X2_wantsCollect.1 pr_X2_wantsCollect.2).2.1 (xat_ok pr_X2_wantsCollect.1 pr_X2_wantsCollect.2).2.2 h
  · exact (List.forall_mem_cons.mpr ⟨(xent_met X (ci := 2) hT cd_X2_survey lk_X2_174 rfl (by decide) rfl (by decide +kernel) (fun z => absurd z (by decide)) (hw_X2_survey l D cA sA fu 0) (fun _ => ⟨by decide, fun _ => ⟨TX2, 16, rfl⟩⟩) (by constructor <;> omega) (by decide)), (List.forall_mem_cons.mpr ⟨(xent_met X (ci := 8) hT cd_X8_value lk_X2_186 rfl (by decide) rfl (by decide +kernel) (fun z => absurd z (by decide)) (hw_X8_value l D cA sA fu 0) (fun _ => ⟨by decide, fun _ => ⟨TX8, 4, rfl⟩⟩) (by constructor <;> omega) (by decide)), (fun _ h => nomatch h)⟩)⟩)
  · exact (fun _ h => nomatch h)

theorem ok_X2_wantsCollect (l : Launch) (D : va_G) (cA : Nat → ClassId) (sA : Nat → Nat) (fu : Nat) (s : Nat) (M : xM) {rr : Int32 × xM} (h : F_X2_wantsCollect fu s M = some rr) : xMet l D cA sA yX2_wantsCollect cX2_wantsCollect 2 (some .boolean) xG (2 + 1) 0 0 [.inr (.inr (2, some s))] M (some (.inl rr.1)) rr.2 :=
  xmet_of (by decide +kernel) (Nat.le_of_ble_eq_true rfl) (fun p e s1 m ag below meth c0 A0 ad0 Z X hn hE => wx_X2_wantsCollect X hn ⟨Nat.le_refl _, Nat.le_refl _⟩ hE fu s M h)
theorem hw_X2_wantsCollect (l : Launch) (D : va_G) (cA : Nat → ClassId) (sA : Nat → Nat) (fu : Nat) {ρ : Type} {r0 : ρ} (kd1 : Nat) : ∀ (as : List xV) (M : xM) (k : Option xV → xM → Option ρ), w_X2_wantsCollect fu as M k = some r0 → ∃ v M', xMet l D cA sA yX2_wantsCollect cX2_wantsCollect 2 (some .boolean) xG (2 + 1) 0 0 as M v M' ∧ k v M' = some r0 ∧ (kd1 ≠ 2 → ∃ a as', as = .inr (.inr (2, some a)) :: as') := by
  intro as M k h
  unfold w_X2_wantsCollect at h
  replace h := pR_some h
  obtain ⟨o, as1, rfl, h⟩ := h
  replace h := bd_some h
  obtain ⟨s, rfl, h⟩ := h
  replace h := xe_some h
  obtain ⟨rfl, h⟩ := h
  obtain ⟨p1, hp, h⟩ := Option.bind_eq_some_iff.mp h
  exact ⟨_, _, ok_X2_wantsCollect l D cA sA fu s M hp, h, fun _ => ⟨_, _, rfl⟩⟩
theorem cd_X2_dirtyIn : Cond.code yX2_dirtyIn cX2_dirtyIn 2 (some .int) ∈ xG := (xg 956 (by decide +kernel) (by decide +kernel))
theorem pr_X2_dirtyIn : (∀ e ∈ pX2_dirtyIn, xrow cX2_dirtyIn 2 kdX2 flX2 0 false RX2 e) ∧ xnext pX2_dirtyIn = true := xrows (by decide +kernel)
set_option maxRecDepth 100000 in
theorem wx_X2_dirtyIn (X : xCtx p R S0 m ag c0 D cA A0 sA 2 cX2_dirtyIn RX2 (.code yX2_dirtyIn cX2_dirtyIn 2 (some .int) :: xG) 0 0) (hi : meth.name = yX2_dirtyIn.name) (hroom : 0 + 2 ≤ R.frames ∧ 60 * (0 + 2) ≤ R.locals) {rr : Int32 × xM} (hE : xEnd l D cA sA cX2_dirtyIn 2 (some .int) R 0 0 (some (.inl rr.1)) rr.2 p e S0 m ag below meth c0 A0 M0 ad0 Z) (fu : Nat) (s : Nat) (x1 : Int32) (M : xM) (h : F_X2_dirtyIn fu s x1 M = some rr) : xWx p l e R S0 m ag below meth c0 D cA A0 sA M0 ad0 2 Z 0 0 0 0 0 [(0, .inr (.inr (2, some s))), (1, .inl x1)] [] M := by
  rw [← q_X2_dirtyIn fu s x1 M] at h
  have hT : ∀ w ∈ xG, w ∈ (Cond.code yX2_dirtyIn cX2_dirtyIn 2 (some .int) :: xG) := fun w hw => List.mem_cons_of_mem _ hw
  refine xrun_sound (nst := 0) (isInit := false) (kd := kdX2) X (xcls_mono hT xclsG) (xpool_mono hT plX2) (fun z => by cases z) (fun idx v hf => xkoE_mono hT (koX2_ok _ (xfind_mem hf))) (xents (ca := _) ?_) (endI hE).1 (endI hE).2 (xcuts (cu := _) ?_) pr_X2_dirtyIn.1 pr_X2_dirtyIn.2 _ _ _ _ _ _ _ _ (xat_ok pr_X2_dirtyIn.1 pr_X2_dirtyIn.2).1 (xat_ok pr_X2_dirtyIn.1 pr_X2_dirtyIn.2).2.1 (xat_ok pr_X2_dirtyIn.1 pr_X2_dirtyIn.2).2.2 h
  · exact (fun _ h => nomatch h)
  · exact (fun _ h => nomatch h)

theorem ok_X2_dirtyIn (l : Launch) (D : va_G) (cA : Nat → ClassId) (sA : Nat → Nat) (fu : Nat) (s : Nat) (x1 : Int32) (M : xM) {rr : Int32 × xM} (h : F_X2_dirtyIn fu s x1 M = some rr) : xMet l D cA sA yX2_dirtyIn cX2_dirtyIn 2 (some .int) xG (0 + 1) 0 0 [.inr (.inr (2, some s)), .inl x1] M (some (.inl rr.1)) rr.2 :=
  xmet_of (by decide +kernel) (Nat.le_of_ble_eq_true rfl) (fun p e s1 m ag below meth c0 A0 ad0 Z X hn hE => wx_X2_dirtyIn X hn ⟨Nat.le_refl _, Nat.le_refl _⟩ hE fu s x1 M h)
theorem hw_X2_dirtyIn (l : Launch) (D : va_G) (cA : Nat → ClassId) (sA : Nat → Nat) (fu : Nat) {ρ : Type} {r0 : ρ} (kd1 : Nat) : ∀ (as : List xV) (M : xM) (k : Option xV → xM → Option ρ), w_X2_dirtyIn fu as M k = some r0 → ∃ v M', xMet l D cA sA yX2_dirtyIn cX2_dirtyIn 2 (some .int) xG (0 + 1) 0 0 as M v M' ∧ k v M' = some r0 ∧ (kd1 ≠ 2 → ∃ a as', as = .inr (.inr (2, some a)) :: as') := by
  intro as M k h
  unfold w_X2_dirtyIn at h
  replace h := pR_some h
  obtain ⟨o, as1, rfl, h⟩ := h
  replace h := bd_some h
  obtain ⟨s, rfl, h⟩ := h
  replace h := pI_some h
  obtain ⟨x1, as1, rfl, h⟩ := h
  replace h := xe_some h
  obtain ⟨rfl, h⟩ := h
  obtain ⟨p1, hp, h⟩ := Option.bind_eq_some_iff.mp h
  exact ⟨_, _, ok_X2_dirtyIn l D cA sA fu s x1 M hp, h, fun _ => ⟨_, _, rfl⟩⟩
theorem lk_X2_246 : xLink xG RX2 246 0 yX2_dirtyIn 1 := ⟨Or.inl (xg 1017 (by decide +kernel) (by decide +kernel)), (xg 954 (by decide +kernel) (by decide +kernel)), (xg 955 (by decide +kernel) (by decide +kernel)), (xg 134 (by decide +kernel) (by decide +kernel)), ⟨2, by decide, TX2, 16, rfl⟩⟩
theorem cd_X2_picked : Cond.code yX2_picked cX2_picked 6 (some .int) ∈ xG := (xg 1016 (by decide +kernel) (by decide +kernel))
theorem pr_X2_picked : (∀ e ∈ pX2_picked, xrow cX2_picked 6 kdX2 flX2 0 false RX2 e) ∧ xnext pX2_picked = true := xrows (by decide +kernel)
set_option maxRecDepth 100000 in
theorem wx_X2_picked_88 (X : xCtx p R S0 m ag c0 D cA A0 sA 6 cX2_picked RX2 (.code yX2_picked cX2_picked 6 (some .int) :: xG) 0 0) (hi : meth.name = yX2_picked.name) (hroom : 2 + 2 ≤ R.frames ∧ 60 * (2 + 2) ≤ R.locals) {rr : Int32 × xM} (hE : xEnd l D cA sA cX2_picked 6 (some .int) R 0 0 (some (.inl rr.1)) rr.2 p e S0 m ag below meth c0 A0 M0 ad0 Z) (fu : Nat) (k19 : Nat → Int32 → Int32 → Int32 → xM → Option (Int32 × xM)) (hk19 : ∀ (s : Nat) (x1 : Int32) (x2 : Int32) (x3 : Int32) (M : xM), k19 s x1 x2 x3 M = some rr → xWx p l e R S0 m ag below meth c0 D cA A0 sA M0 ad0 6 Z 0 0 19 0 0 [(0, .inr (.inr (2, some s))), (1, .inl x1), (2, .inl x2), (3, .inl x3)] [] M) (s : Nat) (x1 : Int32) (x2 : Int32) (x3 : Int32) (x4 : Int32) (y0 : Int32) (M : xM) (h : J_X2_picked_88 fu k19 s x1 x2 x3 x4 y0 M = some rr) : xWx p l e R S0 m ag below meth c0 D cA A0 sA M0 ad0 6 Z 0 0 88 0 0 [(0, .inr (.inr (2, some s))), (1, .inl x1), (2, .inl x2), (3, .inl x3), (4, .inl x4)] [.inl y0] M := by
  rw [← q_X2_picked_88 fu k19 s x1 x2 x3 x4 y0 M] at h
  have hT : ∀ w ∈ xG, w ∈ (Cond.code yX2_picked cX2_picked 6 (some .int) :: xG) := fun w hw => List.mem_cons_of_mem _ hw
  refine xrun_sound (nst := 0) (isInit := false) (kd := kdX2) X (xcls_mono hT xclsG) (xpool_mono hT plX2) (fun z => by cases z) (fun idx v hf => xkoE_mono hT (koX2_ok _ (xfind_mem hf))) (xents (ca := _) ?_) (endI hE).1 (endI hE).2 (xcuts (cu := _) ?_) pr_X2_picked.1 pr_X2_picked.2 _ _ _ _ _ _ _ _ (xat_ok pr_X2_picked.1 pr_X2_picked.2).1 (xat_ok pr_X2_picked.1 pr_X2_picked.2).2.1 (xat_ok pr_X2_picked.1 pr_X2_picked.2).2.2 h
  · exact (fun _ h => nomatch h)
  · refine (List.forall_mem_cons.mpr ⟨?_, (fun _ h => nomatch h)⟩)
    · intro bc bs ls st M h
      replace h := xz_some h
      obtain ⟨rfl, rfl, h⟩ := h
      replace h := lR_some h
      obtain ⟨o, e0, h⟩ := h
      replace h := bd_some h
      obtain ⟨s', rfl, h⟩ := h
      replace h := lI_some h
      obtain ⟨x1', e1, h⟩ := h
      replace h := lI_some h
      obtain ⟨x2', e2, h⟩ := h
      replace h := lI_some h
      obtain ⟨x3', e3, h⟩ := h
      replace h := xe_some h
      obtain ⟨rfl, h⟩ := h
      exact xWx_ls (hk19 s' x1' x2' x3' M h) (List.forall_mem_cons.mpr ⟨e0, (List.forall_mem_cons.mpr ⟨e1, (List.forall_mem_cons.mpr ⟨e2, (List.forall_mem_cons.mpr ⟨e3, (fun _ h => nomatch h)⟩)⟩)⟩)⟩)

set_option maxRecDepth 100000 in
theorem wx_X2_picked_50 (X : xCtx p R S0 m ag c0 D cA A0 sA 6 cX2_picked RX2 (.code yX2_picked cX2_picked 6 (some .int) :: xG) 0 0) (hi : meth.name = yX2_picked.name) (hroom : 2 + 2 ≤ R.frames ∧ 60 * (2 + 2) ≤ R.locals) {rr : Int32 × xM} (hE : xEnd l D cA sA cX2_picked 6 (some .int) R 0 0 (some (.inl rr.1)) rr.2 p e S0 m ag below meth c0 A0 M0 ad0 Z) (fu : Nat) (k19 : Nat → Int32 → Int32 → Int32 → xM → Option (Int32 × xM)) (hk19 : ∀ (s : Nat) (x1 : Int32) (x2 : Int32) (x3 : Int32) (M : xM), k19 s x1 x2 x3 M = some rr → xWx p l e R S0 m ag below meth c0 D cA A0 sA M0 ad0 6 Z 0 0 19 0 0 [(0, .inr (.inr (2, some s))), (1, .inl x1), (2, .inl x2), (3, .inl x3)] [] M) (s : Nat) (x1 : Int32) (x2 : Int32) (x3 : Int32) (y0 : Int32) (M : xM) (h : J_X2_picked_50 fu k19 s x1 x2 x3 y0 M = some rr) : xWx p l e R S0 m ag below meth c0 D cA A0 sA M0 ad0 6 Z 0 0 50 0 0 [(0, .inr (.inr (2, some s))), (1, .inl x1), (2, .inl x2), (3, .inl x3)] [.inl y0] M := by
  rw [← q_X2_picked_50 fu k19 s x1 x2 x3 y0 M] at h
  have hT : ∀ w ∈ xG, w ∈ (Cond.code yX2_picked cX2_picked 6 (some .int) :: xG) := fun w hw => List.mem_cons_of_mem _ hw
  refine xrun_sound (nst := 0) (isInit := false) (kd := kdX2) X (xcls_mono hT xclsG) (xpool_mono hT plX2) (fun z => by cases z) (fun idx v hf => xkoE_mono hT (koX2_ok _ (xfind_mem hf))) (xents (ca := _) ?_) (endI hE).1 (endI hE).2 (xcuts (cu := _) ?_) pr_X2_picked.1 pr_X2_picked.2 _ _ _ _ _ _ _ _ (xat_ok pr_X2_picked.1 pr_X2_picked.2).1 (xat_ok pr_X2_picked.1 pr_X2_picked.2).2.1 (xat_ok pr_X2_picked.1 pr_X2_picked.2).2.2 h
  · exact (fun _ h => nomatch h)
  · refine (List.forall_mem_cons.mpr ⟨?_, (fun _ h => nomatch h)⟩)
    · intro bc bs ls st M h
      replace h := xz_some h
      obtain ⟨rfl, rfl, h⟩ := h
      replace h := lR_some h
      obtain ⟨o, e0, h⟩ := h
      replace h := bd_some h
      obtain ⟨s', rfl, h⟩ := h
      replace h := lI_some h
      obtain ⟨x1', e1, h⟩ := h
      replace h := lI_some h
      obtain ⟨x2', e2, h⟩ := h
      replace h := lI_some h
      obtain ⟨x3', e3, h⟩ := h
      replace h := lI_some h
      obtain ⟨x4', e4, h⟩ := h
      replace h := pI_some h
      obtain ⟨y0', st, rfl, h⟩ := h
      replace h := xe_some h
      obtain ⟨rfl, h⟩ := h
      exact xWx_ls (wx_X2_picked_88 X hi hroom hE fu k19 hk19 s' x1' x2' x3' x4' y0' M h) (List.forall_mem_cons.mpr ⟨e0, (List.forall_mem_cons.mpr ⟨e1, (List.forall_mem_cons.mpr ⟨e2, (List.forall_mem_cons.mpr ⟨e3, (List.forall_mem_cons.mpr ⟨e4, (fun _ h => nomatch h)⟩)⟩)⟩)⟩)⟩)

set_option maxRecDepth 100000 in
theorem wx_X2_picked_19 (X : xCtx p R S0 m ag c0 D cA A0 sA 6 cX2_picked RX2 (.code yX2_picked cX2_picked 6 (some .int) :: xG) 0 0) (hi : meth.name = yX2_picked.name) (hroom : 2 + 2 ≤ R.frames ∧ 60 * (2 + 2) ≤ R.locals) {rr : Int32 × xM} (hE : xEnd l D cA sA cX2_picked 6 (some .int) R 0 0 (some (.inl rr.1)) rr.2 p e S0 m ag below meth c0 A0 M0 ad0 Z) (fu : Nat) : ∀ (n : Nat) (s : Nat) (x1 : Int32) (x2 : Int32) (x3 : Int32) (M : xM), L_X2_picked_19 fu n s x1 x2 x3 M = some rr → xWx p l e R S0 m ag below meth c0 D cA A0 sA M0 ad0 6 Z 0 0 19 0 0 [(0, .inr (.inr (2, some s))), (1, .inl x1), (2, .inl x2), (3, .inl x3)] [] M := by
  intro n
  induction n with
  | zero => intro s x1 x2 x3 M h; cases h
  | succ n ih =>
    intro s x1 x2 x3 M h
    rw [← q_X2_picked_19 fu n s x1 x2 x3 M] at h
    have hT : ∀ w ∈ xG, w ∈ (Cond.code yX2_picked cX2_picked 6 (some .int) :: xG) := fun w hw => List.mem_cons_of_mem _ hw
    refine xrun_sound (nst := 0) (isInit := false) (kd := kdX2) X (xcls_mono hT xclsG) (xpool_mono hT plX2) (fun z => by cases z) (fun idx v hf => xkoE_mono hT (koX2_ok _ (xfind_mem hf))) (xents (ca := _) ?_) (endI hE).1 (endI hE).2 (xcuts (cu := _) ?_) pr_X2_picked.1 pr_X2_picked.2 _ _ _ _ _ _ _ _ (xat_ok pr_X2_picked.1 pr_X2_picked.2).1 (xat_ok pr_X2_picked.1 pr_X2_picked.2).2.1 (xat_ok pr_X2_picked.1 pr_X2_picked.2).2.2 h
    · exact (List.forall_mem_cons.mpr ⟨(xent_met X (ci := 2) hT cd_X2_dirtyIn lk_X2_246 rfl (by decide) rfl (by decide +kernel) (fun z => absurd z (by decide)) (hw_X2_dirtyIn l D cA sA fu 0) (fun _ => ⟨by decide, fun _ => ⟨TX2, 16, rfl⟩⟩) (by constructor <;> omega) (by decide)), (fun _ h => nomatch h)⟩)
    · refine (List.forall_mem_cons.mpr ⟨?_, (fun _ h => nomatch h)⟩)
      · intro bc bs ls st M h
        replace h := xz_some h
        obtain ⟨rfl, rfl, h⟩ := h
        replace h := lR_some h
        obtain ⟨o, e0, h⟩ := h
        replace h := bd_some h
        obtain ⟨s', rfl, h⟩ := h
        replace h := lI_some h
        obtain ⟨x1', e1, h⟩ := h
        replace h := lI_some h
        obtain ⟨x2', e2, h⟩ := h
        replace h := lI_some h
        obtain ⟨x3', e3, h⟩ := h
        replace h := pI_some h
        obtain ⟨y0', st, rfl, h⟩ := h
        replace h := xe_some h
        obtain ⟨rfl, h⟩ := h
        exact xWx_ls (wx_X2_picked_50 X hi hroom hE fu _ ih s' x1' x2' x3' y0' M h) (List.forall_mem_cons.mpr ⟨e0, (List.forall_mem_cons.mpr ⟨e1, (List.forall_mem_cons.mpr ⟨e2, (List.forall_mem_cons.mpr ⟨e3, (fun _ h => nomatch h)⟩)⟩)⟩)⟩)

set_option maxRecDepth 100000 in
theorem wx_X2_picked (X : xCtx p R S0 m ag c0 D cA A0 sA 6 cX2_picked RX2 (.code yX2_picked cX2_picked 6 (some .int) :: xG) 0 0) (hi : meth.name = yX2_picked.name) (hroom : 2 + 2 ≤ R.frames ∧ 60 * (2 + 2) ≤ R.locals) {rr : Int32 × xM} (hE : xEnd l D cA sA cX2_picked 6 (some .int) R 0 0 (some (.inl rr.1)) rr.2 p e S0 m ag below meth c0 A0 M0 ad0 Z) (fu : Nat) (s : Nat) (M : xM) (h : F_X2_picked fu s M = some rr) : xWx p l e R S0 m ag below meth c0 D cA A0 sA M0 ad0 6 Z 0 0 0 0 0 [(0, .inr (.inr (2, some s)))] [] M := by
  rw [← q_X2_picked fu s M] at h
  have hT : ∀ w ∈ xG, w ∈ (Cond.code yX2_picked cX2_picked 6 (some .int) :: xG) := fun w hw => List.mem_cons_of_mem _ hw
  refine xrun_sound (nst := 0) (isInit := false) (kd := kdX2) X (xcls_mono hT xclsG) (xpool_mono hT plX2) (fun z => by cases z) (fun idx v hf => xkoE_mono hT (koX2_ok _ (xfind_mem hf))) (xents (ca := _) ?_) (endI hE).1 (endI hE).2 (xcuts (cu := _) ?_) pr_X2_picked.1 pr_X2_picked.2 _ _ _ _ _ _ _ _ (xat_ok pr_X2_picked.1 pr_X2_picked.2).1 (xat_ok pr_X2_picked.1 pr_X2_picked.2).2.1 (xat_ok pr_X2_picked.1 pr_X2_picked.2).2.2 h
  · exact (List.forall_mem_cons.mpr ⟨(xent_met X (ci := 2) hT cd_X2_survey lk_X2_174 rfl (by decide) rfl (by decide +kernel) (fun z => absurd z (by decide)) (hw_X2_survey l D cA sA fu 0) (fun _ => ⟨by decide, fun _ => ⟨TX2, 16, rfl⟩⟩) (by constructor <;> omega) (by decide)), (fun _ h => nomatch h)⟩)
  · refine (List.forall_mem_cons.mpr ⟨?_, (fun _ h => nomatch h)⟩)
    · intro bc bs ls st M h
      replace h := xz_some h
      obtain ⟨rfl, rfl, h⟩ := h
      replace h := lR_some h
      obtain ⟨o, e0, h⟩ := h
      replace h := bd_some h
      obtain ⟨s', rfl, h⟩ := h
      replace h := lI_some h
      obtain ⟨x1', e1, h⟩ := h
      replace h := lI_some h
      obtain ⟨x2', e2, h⟩ := h
      replace h := lI_some h
      obtain ⟨x3', e3, h⟩ := h
      replace h := xe_some h
      obtain ⟨rfl, h⟩ := h
      exact xWx_ls (wx_X2_picked_19 X hi hroom hE fu fu s' x1' x2' x3' M h) (List.forall_mem_cons.mpr ⟨e0, (List.forall_mem_cons.mpr ⟨e1, (List.forall_mem_cons.mpr ⟨e2, (List.forall_mem_cons.mpr ⟨e3, (fun _ h => nomatch h)⟩)⟩)⟩)⟩)

theorem ok_X2_picked (l : Launch) (D : va_G) (cA : Nat → ClassId) (sA : Nat → Nat) (fu : Nat) (s : Nat) (M : xM) {rr : Int32 × xM} (h : F_X2_picked fu s M = some rr) : xMet l D cA sA yX2_picked cX2_picked 6 (some .int) xG (2 + 1) 0 0 [.inr (.inr (2, some s))] M (some (.inl rr.1)) rr.2 :=
  xmet_of (by decide +kernel) (Nat.le_of_ble_eq_true rfl) (fun p e s1 m ag below meth c0 A0 ad0 Z X hn hE => wx_X2_picked X hn ⟨Nat.le_refl _, Nat.le_refl _⟩ hE fu s M h)
theorem hw_X2_picked (l : Launch) (D : va_G) (cA : Nat → ClassId) (sA : Nat → Nat) (fu : Nat) {ρ : Type} {r0 : ρ} (kd1 : Nat) : ∀ (as : List xV) (M : xM) (k : Option xV → xM → Option ρ), w_X2_picked fu as M k = some r0 → ∃ v M', xMet l D cA sA yX2_picked cX2_picked 6 (some .int) xG (2 + 1) 0 0 as M v M' ∧ k v M' = some r0 ∧ (kd1 ≠ 2 → ∃ a as', as = .inr (.inr (2, some a)) :: as') := by
  intro as M k h
  unfold w_X2_picked at h
  replace h := pR_some h
  obtain ⟨o, as1, rfl, h⟩ := h
  replace h := bd_some h
  obtain ⟨s, rfl, h⟩ := h
  replace h := xe_some h
  obtain ⟨rfl, h⟩ := h
  obtain ⟨p1, hp, h⟩ := Option.bind_eq_some_iff.mp h
  exact ⟨_, _, ok_X2_picked l D cA sA fu s M hp, h, fun _ => ⟨_, _, rfl⟩⟩
theorem cd_X3_isAlike : Cond.code yX3_isAlike cX3_isAlike 4 (some .boolean) ∈ xG := (xg 1060 (by decide +kernel) (by decide +kernel))
theorem pr_X3_isAlike : (∀ e ∈ pX3_isAlike, xrow cX3_isAlike 4 kdX3 flX3 0 false RX3 e) ∧ xnext pX3_isAlike = true := xrows (by decide +kernel)
set_option maxRecDepth 100000 in
theorem wx_X3_isAlike_2 (X : xCtx p R S0 m ag c0 D cA A0 sA 4 cX3_isAlike RX3 (.code yX3_isAlike cX3_isAlike 4 (some .boolean) :: xG) 0 0) (hi : meth.name = yX3_isAlike.name) (hroom : 0 + 2 ≤ R.frames ∧ 60 * (0 + 2) ≤ R.locals) {rr : Int32 × xM} (hE : xEnd l D cA sA cX3_isAlike 4 (some .boolean) R 0 0 (some (.inl rr.1)) rr.2 p e S0 m ag below meth c0 A0 M0 ad0 Z) (fu : Nat) : ∀ (n : Nat) (s : Nat) (x1 : Int32) (x2 : Option Nat) (x3 : Int32) (M : xM), L_X3_isAlike_2 fu n s x1 x2 x3 M = some rr → xWx p l e R S0 m ag below meth c0 D cA A0 sA M0 ad0 4 Z 0 0 2 0 0 [(0, .inr (.inr (3, some s))), (1, .inl x1), (2, .inr (.inr (20, x2))), (3, .inl x3)] [] M := by
  intro n
  induction n with
  | zero => intro s x1 x2 x3 M h; cases h
  | succ n ih =>
    intro s x1 x2 x3 M h
    rw [← q_X3_isAlike_2 fu n s x1 x2 x3 M] at h
    have hT : ∀ w ∈ xG, w ∈ (Cond.code yX3_isAlike cX3_isAlike 4 (some .boolean) :: xG) := fun w hw => List.mem_cons_of_mem _ hw
    refine xrun_sound (nst := 0) (isInit := false) (kd := kdX3) X (xcls_mono hT xclsG) (xpool_mono hT plX3) (fun z => by cases z) (fun idx v hf => xkoE_mono hT (koX3_ok _ (xfind_mem hf))) (xents (ca := _) ?_) (endZ hE).1 (endZ hE).2 (xcuts (cu := _) ?_) pr_X3_isAlike.1 pr_X3_isAlike.2 _ _ _ _ _ _ _ _ (xat_ok pr_X3_isAlike.1 pr_X3_isAlike.2).1 (xat_ok pr_X3_isAlike.1 pr_X3_isAlike.2).2.1 (xat_ok pr_X3_isAlike.1 pr_X3_isAlike.2).2.2 h
    · exact (fun _ h => nomatch h)
    · refine (List.forall_mem_cons.mpr ⟨?_, (fun _ h => nomatch h)⟩)
      · intro bc bs ls st M h
        replace h := xz_some h
        obtain ⟨rfl, rfl, h⟩ := h
        replace h := lR_some h
        obtain ⟨o, e0, h⟩ := h
        replace h := bd_some h
        obtain ⟨s', rfl, h⟩ := h
        replace h := lI_some h
        obtain ⟨x1', e1, h⟩ := h
        replace h := lR_some h
        obtain ⟨x2', e2, h⟩ := h
        replace h := lI_some h
        obtain ⟨x3', e3, h⟩ := h
        replace h := xe_some h
        obtain ⟨rfl, h⟩ := h
        exact xWx_ls (ih s' x1' x2' x3' M h) (List.forall_mem_cons.mpr ⟨e0, (List.forall_mem_cons.mpr ⟨e1, (List.forall_mem_cons.mpr ⟨e2, (List.forall_mem_cons.mpr ⟨e3, (fun _ h => nomatch h)⟩)⟩)⟩)⟩)

set_option maxRecDepth 100000 in
theorem wx_X3_isAlike (X : xCtx p R S0 m ag c0 D cA A0 sA 4 cX3_isAlike RX3 (.code yX3_isAlike cX3_isAlike 4 (some .boolean) :: xG) 0 0) (hi : meth.name = yX3_isAlike.name) (hroom : 0 + 2 ≤ R.frames ∧ 60 * (0 + 2) ≤ R.locals) {rr : Int32 × xM} (hE : xEnd l D cA sA cX3_isAlike 4 (some .boolean) R 0 0 (some (.inl rr.1)) rr.2 p e S0 m ag below meth c0 A0 M0 ad0 Z) (fu : Nat) (s : Nat) (x1 : Int32) (x2 : Option Nat) (M : xM) (h : F_X3_isAlike fu s x1 x2 M = some rr) : xWx p l e R S0 m ag below meth c0 D cA A0 sA M0 ad0 4 Z 0 0 0 0 0 [(0, .inr (.inr (3, some s))), (1, .inl x1), (2, .inr (.inr (20, x2)))] [] M := by
  rw [← q_X3_isAlike fu s x1 x2 M] at h
  have hT : ∀ w ∈ xG, w ∈ (Cond.code yX3_isAlike cX3_isAlike 4 (some .boolean) :: xG) := fun w hw => List.mem_cons_of_mem _ hw
  refine xrun_sound (nst := 0) (isInit := false) (kd := kdX3) X (xcls_mono hT xclsG) (xpool_mono hT plX3) (fun z => by cases z) (fun idx v hf => xkoE_mono hT (koX3_ok _ (xfind_mem hf))) (xents (ca := _) ?_) (endZ hE).1 (endZ hE).2 (xcuts (cu := _) ?_) pr_X3_isAlike.1 pr_X3_isAlike.2 _ _ _ _ _ _ _ _ (xat_ok pr_X3_isAlike.1 pr_X3_isAlike.2).1 (xat_ok pr_X3_isAlike.1 pr_X3_isAlike.2).2.1 (xat_ok pr_X3_isAlike.1 pr_X3_isAlike.2).2.2 h
  · exact (fun _ h => nomatch h)
  · refine (List.forall_mem_cons.mpr ⟨?_, (fun _ h => nomatch h)⟩)
    · intro bc bs ls st M h
      replace h := xz_some h
      obtain ⟨rfl, rfl, h⟩ := h
      replace h := lR_some h
      obtain ⟨o, e0, h⟩ := h
      replace h := bd_some h
      obtain ⟨s', rfl, h⟩ := h
      replace h := lI_some h
      obtain ⟨x1', e1, h⟩ := h
      replace h := lR_some h
      obtain ⟨x2', e2, h⟩ := h
      replace h := lI_some h
      obtain ⟨x3', e3, h⟩ := h
      replace h := xe_some h
      obtain ⟨rfl, h⟩ := h
      exact xWx_ls (wx_X3_isAlike_2 X hi hroom hE fu fu s' x1' x2' x3' M h) (List.forall_mem_cons.mpr ⟨e0, (List.forall_mem_cons.mpr ⟨e1, (List.forall_mem_cons.mpr ⟨e2, (List.forall_mem_cons.mpr ⟨e3, (fun _ h => nomatch h)⟩)⟩)⟩)⟩)

theorem ok_X3_isAlike (l : Launch) (D : va_G) (cA : Nat → ClassId) (sA : Nat → Nat) (fu : Nat) (s : Nat) (x1 : Int32) (x2 : Option Nat) (M : xM) {rr : Int32 × xM} (h : F_X3_isAlike fu s x1 x2 M = some rr) : xMet l D cA sA yX3_isAlike cX3_isAlike 4 (some .boolean) xG (0 + 1) 0 0 [.inr (.inr (3, some s)), .inl x1, .inr (.inr (20, x2))] M (some (.inl rr.1)) rr.2 :=
  xmet_of (by decide +kernel) (Nat.le_of_ble_eq_true rfl) (fun p e s1 m ag below meth c0 A0 ad0 Z X hn hE => wx_X3_isAlike X hn ⟨Nat.le_refl _, Nat.le_refl _⟩ hE fu s x1 x2 M h)
theorem hw_X3_isAlike (l : Launch) (D : va_G) (cA : Nat → ClassId) (sA : Nat → Nat) (fu : Nat) {ρ : Type} {r0 : ρ} (kd1 : Nat) : ∀ (as : List xV) (M : xM) (k : Option xV → xM → Option ρ), w_X3_isAlike fu as M k = some r0 → ∃ v M', xMet l D cA sA yX3_isAlike cX3_isAlike 4 (some .boolean) xG (0 + 1) 0 0 as M v M' ∧ k v M' = some r0 ∧ (kd1 ≠ 2 → ∃ a as', as = .inr (.inr (3, some a)) :: as') := by
  intro as M k h
  unfold w_X3_isAlike at h
  replace h := pR_some h
  obtain ⟨o, as1, rfl, h⟩ := h
  replace h := bd_some h
  obtain ⟨s, rfl, h⟩ := h
  replace h := pI_some h
  obtain ⟨x1, as1, rfl, h⟩ := h
  replace h := pR_some h
  obtain ⟨x2, as1, rfl, h⟩ := h
  replace h := xe_some h
  obtain ⟨rfl, h⟩ := h
  obtain ⟨p1, hp, h⟩ := Option.bind_eq_some_iff.mp h
  exact ⟨_, _, ok_X3_isAlike l D cA sA fu s x1 x2 M hp, h, fun _ => ⟨_, _, rfl⟩⟩
theorem lk_X3_32 : xLink xG RX3 32 0 yX3_isAlike 2 := ⟨Or.inl (xg 1057 (by decide +kernel) (by decide +kernel)), (xg 1058 (by decide +kernel) (by decide +kernel)), (xg 1059 (by decide +kernel) (by decide +kernel)), (xg 139 (by decide +kernel) (by decide +kernel)), ⟨3, by decide, TX3, 6, rfl⟩⟩
theorem cd_X3_note : Cond.code yX3_note cX3_note 3 none ∈ xG := (xg 1056 (by decide +kernel) (by decide +kernel))
theorem pr_X3_note : (∀ e ∈ pX3_note, xrow cX3_note 3 kdX3 flX3 0 false RX3 e) ∧ xnext pX3_note = true := xrows (by decide +kernel)
set_option maxRecDepth 100000 in
theorem wx_X3_note_78 (X : xCtx p R S0 m ag c0 D cA A0 sA 3 cX3_note RX3 (.code yX3_note cX3_note 3 none :: xG) 0 0) (hi : meth.name = yX3_note.name) (hroom : 1 + 2 ≤ R.frames ∧ 60 * (1 + 2) ≤ R.locals) {rr : xM} (hE : xEnd l D cA sA cX3_note 3 none R 0 0 none rr p e S0 m ag below meth c0 A0 M0 ad0 Z) (fu : Nat) (s : Nat) (x2 : Int32) (M : xM) (h : J_X3_note_78 fu s x2 M = some rr) : xWx p l e R S0 m ag below meth c0 D cA A0 sA M0 ad0 3 Z 0 0 78 0 0 [(0, .inr (.inr (3, some s))), (2, .inl x2)] [] M := by
  rw [← q_X3_note_78 fu s x2 M] at h
  have hT : ∀ w ∈ xG, w ∈ (Cond.code yX3_note cX3_note 3 none :: xG) := fun w hw => List.mem_cons_of_mem _ hw
  refine xrun_sound (nst := 0) (isInit := false) (kd := kdX3) X (xcls_mono hT xclsG) (xpool_mono hT plX3) (fun z => by cases z) (fun idx v hf => xkoE_mono hT (koX3_ok _ (xfind_mem hf))) (xents (ca := _) ?_) (endV hE).1 (endV hE).2 (xcuts (cu := _) ?_) pr_X3_note.1 pr_X3_note.2 _ _ _ _ _ _ _ _ (xat_ok pr_X3_note.1 pr_X3_note.2).1 (xat_ok pr_X3_note.1 pr_X3_note.2).2.1 (xat_ok pr_X3_note.1 pr_X3_note.2).2.2 h
  · exact (fun _ h => nomatch h)
  · exact (fun _ h => nomatch h)

set_option maxRecDepth 100000 in
theorem wx_X3_note_37 (X : xCtx p R S0 m ag c0 D cA A0 sA 3 cX3_note RX3 (.code yX3_note cX3_note 3 none :: xG) 0 0) (hi : meth.name = yX3_note.name) (hroom : 1 + 2 ≤ R.frames ∧ 60 * (1 + 2) ≤ R.locals) {rr : xM} (hE : xEnd l D cA sA cX3_note 3 none R 0 0 none rr p e S0 m ag below meth c0 A0 M0 ad0 Z) (fu : Nat) (s : Nat) (x1 : Option Nat) (x2 : Int32) (M : xM) (h : J_X3_note_37 fu s x1 x2 M = some rr) : xWx p l e R S0 m ag below meth c0 D cA A0 sA M0 ad0 3 Z 0 0 37 0 0 [(0, .inr (.inr (3, some s))), (1, .inr (.inr (20, x1))), (2, .inl x2)] [] M := by
  rw [← q_X3_note_37 fu s x1 x2 M] at h
  have hT : ∀ w ∈ xG, w ∈ (Cond.code yX3_note cX3_note 3 none :: xG) := fun w hw => List.mem_cons_of_mem _ hw
  refine xrun_sound (nst := 0) (isInit := false) (kd := kdX3) X (xcls_mono hT xclsG) (xpool_mono hT plX3) (fun z => by cases z) (fun idx v hf => xkoE_mono hT (koX3_ok _ (xfind_mem hf))) (xents (ca := _) ?_) (endV hE).1 (endV hE).2 (xcuts (cu := _) ?_) pr_X3_note.1 pr_X3_note.2 _ _ _ _ _ _ _ _ (xat_ok pr_X3_note.1 pr_X3_note.2).1 (xat_ok pr_X3_note.1 pr_X3_note.2).2.1 (xat_ok pr_X3_note.1 pr_X3_note.2).2.2 h
  · exact (List.forall_mem_cons.mpr ⟨(xent_arraycopy X hT (xg 1061 (by decide +kernel) (by decide +kernel)) (xg 1063 (by decide +kernel) (by decide +kernel)) (xg 1062 (by decide +kernel) (by decide +kernel)) (xg 147 (by decide +kernel) (by decide +kernel)) rfl), (fun _ h => nomatch h)⟩)
  · refine (List.forall_mem_cons.mpr ⟨?_, (fun _ h => nomatch h)⟩)
    · intro bc bs ls st M h
      replace h := xz_some h
      obtain ⟨rfl, rfl, h⟩ := h
      replace h := lR_some h
      obtain ⟨o, e0, h⟩ := h
      replace h := bd_some h
      obtain ⟨s', rfl, h⟩ := h
      replace h := lI_some h
      obtain ⟨x2', e2, h⟩ := h
      replace h := xe_some h
      obtain ⟨rfl, h⟩ := h
      exact xWx_ls (wx_X3_note_78 X hi hroom hE fu s' x2' M h) (List.forall_mem_cons.mpr ⟨e0, (List.forall_mem_cons.mpr ⟨e2, (fun _ h => nomatch h)⟩)⟩)

set_option maxRecDepth 100000 in
theorem wx_X3_note_18 (X : xCtx p R S0 m ag c0 D cA A0 sA 3 cX3_note RX3 (.code yX3_note cX3_note 3 none :: xG) 0 0) (hi : meth.name = yX3_note.name) (hroom : 1 + 2 ≤ R.frames ∧ 60 * (1 + 2) ≤ R.locals) {rr : xM} (hE : xEnd l D cA sA cX3_note 3 none R 0 0 none rr p e S0 m ag below meth c0 A0 M0 ad0 Z) (fu : Nat) : ∀ (n : Nat) (s : Nat) (x1 : Option Nat) (x2 : Int32) (M : xM), L_X3_note_18 fu n s x1 x2 M = some rr → xWx p l e R S0 m ag below meth c0 D cA A0 sA M0 ad0 3 Z 0 0 18 0 0 [(0, .inr (.inr (3, some s))), (1, .inr (.inr (20, x1))), (2, .inl x2)] [] M := by
  intro n
  induction n with
  | zero => intro s x1 x2 M h; cases h
  | succ n ih =>
    intro s x1 x2 M h
    rw [← q_X3_note_18 fu n s x1 x2 M] at h
    have hT : ∀ w ∈ xG, w ∈ (Cond.code yX3_note cX3_note 3 none :: xG) := fun w hw => List.mem_cons_of_mem _ hw
    refine xrun_sound (nst := 0) (isInit := false) (kd := kdX3) X (xcls_mono hT xclsG) (xpool_mono hT plX3) (fun z => by cases z) (fun idx v hf => xkoE_mono hT (koX3_ok _ (xfind_mem hf))) (xents (ca := _) ?_) (endV hE).1 (endV hE).2 (xcuts (cu := _) ?_) pr_X3_note.1 pr_X3_note.2 _ _ _ _ _ _ _ _ (xat_ok pr_X3_note.1 pr_X3_note.2).1 (xat_ok pr_X3_note.1 pr_X3_note.2).2.1 (xat_ok pr_X3_note.1 pr_X3_note.2).2.2 h
    · exact (List.forall_mem_cons.mpr ⟨(xent_met X (ci := 3) hT cd_X3_isAlike lk_X3_32 rfl (by decide) rfl (by decide +kernel) (fun z => absurd z (by decide)) (hw_X3_isAlike l D cA sA fu 0) (fun _ => ⟨by decide, fun _ => ⟨TX3, 6, rfl⟩⟩) (by constructor <;> omega) (by decide)), (fun _ h => nomatch h)⟩)
    · refine (List.forall_mem_cons.mpr ⟨?_, (List.forall_mem_cons.mpr ⟨?_, (fun _ h => nomatch h)⟩)⟩)
      · intro bc bs ls st M h
        replace h := xz_some h
        obtain ⟨rfl, rfl, h⟩ := h
        replace h := lR_some h
        obtain ⟨o, e0, h⟩ := h
        replace h := bd_some h
        obtain ⟨s', rfl, h⟩ := h
        replace h := lR_some h
        obtain ⟨x1', e1, h⟩ := h
        replace h := lI_some h
        obtain ⟨x2', e2, h⟩ := h
        replace h := xe_some h
        obtain ⟨rfl, h⟩ := h
        exact xWx_ls (ih s' x1' x2' M h) (List.forall_mem_cons.mpr ⟨e0, (List.forall_mem_cons.mpr ⟨e1, (List.forall_mem_cons.mpr ⟨e2, (fun _ h => nomatch h)⟩)⟩)⟩)
      · intro bc bs ls st M h
        replace h := xz_some h
        obtain ⟨rfl, rfl, h⟩ := h
        replace h := lR_some h
        obtain ⟨o, e0, h⟩ := h
        replace h := bd_some h
        obtain ⟨s', rfl, h⟩ := h
        replace h := lR_some h
        obtain ⟨x1', e1, h⟩ := h
        replace h := lI_some h
        obtain ⟨x2', e2, h⟩ := h
        replace h := xe_some h
        obtain ⟨rfl, h⟩ := h
        exact xWx_ls (wx_X3_note_37 X hi hroom hE fu s' x1' x2' M h) (List.forall_mem_cons.mpr ⟨e0, (List.forall_mem_cons.mpr ⟨e1, (List.forall_mem_cons.mpr ⟨e2, (fun _ h => nomatch h)⟩)⟩)⟩)

set_option maxRecDepth 100000 in
theorem wx_X3_note (X : xCtx p R S0 m ag c0 D cA A0 sA 3 cX3_note RX3 (.code yX3_note cX3_note 3 none :: xG) 0 0) (hi : meth.name = yX3_note.name) (hroom : 1 + 2 ≤ R.frames ∧ 60 * (1 + 2) ≤ R.locals) {rr : xM} (hE : xEnd l D cA sA cX3_note 3 none R 0 0 none rr p e S0 m ag below meth c0 A0 M0 ad0 Z) (fu : Nat) (s : Nat) (x1 : Option Nat) (M : xM) (h : F_X3_note fu s x1 M = some rr) : xWx p l e R S0 m ag below meth c0 D cA A0 sA M0 ad0 3 Z 0 0 0 0 0 [(0, .inr (.inr (3, some s))), (1, .inr (.inr (20, x1)))] [] M := by
  rw [← q_X3_note fu s x1 M] at h
  have hT : ∀ w ∈ xG, w ∈ (Cond.code yX3_note cX3_note 3 none :: xG) := fun w hw => List.mem_cons_of_mem _ hw
  refine xrun_sound (nst := 0) (isInit := false) (kd := kdX3) X (xcls_mono hT xclsG) (xpool_mono hT plX3) (fun z => by cases z) (fun idx v hf => xkoE_mono hT (koX3_ok _ (xfind_mem hf))) (xents (ca := _) ?_) (endV hE).1 (endV hE).2 (xcuts (cu := _) ?_) pr_X3_note.1 pr_X3_note.2 _ _ _ _ _ _ _ _ (xat_ok pr_X3_note.1 pr_X3_note.2).1 (xat_ok pr_X3_note.1 pr_X3_note.2).2.1 (xat_ok pr_X3_note.1 pr_X3_note.2).2.2 h
  · exact (fun _ h => nomatch h)
  · refine (List.forall_mem_cons.mpr ⟨?_, (fun _ h => nomatch h)⟩)
    · intro bc bs ls st M h
      replace h := xz_some h
      obtain ⟨rfl, rfl, h⟩ := h
      replace h := lR_some h
      obtain ⟨o, e0, h⟩ := h
      replace h := bd_some h
      obtain ⟨s', rfl, h⟩ := h
      replace h := lR_some h
      obtain ⟨x1', e1, h⟩ := h
      replace h := lI_some h
      obtain ⟨x2', e2, h⟩ := h
      replace h := xe_some h
      obtain ⟨rfl, h⟩ := h
      exact xWx_ls (wx_X3_note_18 X hi hroom hE fu fu s' x1' x2' M h) (List.forall_mem_cons.mpr ⟨e0, (List.forall_mem_cons.mpr ⟨e1, (List.forall_mem_cons.mpr ⟨e2, (fun _ h => nomatch h)⟩)⟩)⟩)

theorem ok_X3_note (l : Launch) (D : va_G) (cA : Nat → ClassId) (sA : Nat → Nat) (fu : Nat) (s : Nat) (x1 : Option Nat) (M : xM) {rr : xM} (h : F_X3_note fu s x1 M = some rr) : xMet l D cA sA yX3_note cX3_note 3 none xG (1 + 1) 0 0 [.inr (.inr (3, some s)), .inr (.inr (20, x1))] M none rr :=
  xmet_of (by decide +kernel) (Nat.le_of_ble_eq_true rfl) (fun p e s1 m ag below meth c0 A0 ad0 Z X hn hE => wx_X3_note X hn ⟨Nat.le_refl _, Nat.le_refl _⟩ hE fu s x1 M h)
theorem hw_X3_note (l : Launch) (D : va_G) (cA : Nat → ClassId) (sA : Nat → Nat) (fu : Nat) {ρ : Type} {r0 : ρ} (kd1 : Nat) : ∀ (as : List xV) (M : xM) (k : Option xV → xM → Option ρ), w_X3_note fu as M k = some r0 → ∃ v M', xMet l D cA sA yX3_note cX3_note 3 none xG (1 + 1) 0 0 as M v M' ∧ k v M' = some r0 ∧ (kd1 ≠ 2 → ∃ a as', as = .inr (.inr (3, some a)) :: as') := by
  intro as M k h
  unfold w_X3_note at h
  replace h := pR_some h
  obtain ⟨o, as1, rfl, h⟩ := h
  replace h := bd_some h
  obtain ⟨s, rfl, h⟩ := h
  replace h := pR_some h
  obtain ⟨x1, as1, rfl, h⟩ := h
  replace h := xe_some h
  obtain ⟨rfl, h⟩ := h
  obtain ⟨p1, hp, h⟩ := Option.bind_eq_some_iff.mp h
  exact ⟨_, _, ok_X3_note l D cA sA fu s x1 M hp, h, fun _ => ⟨_, _, rfl⟩⟩
theorem lk_X2_120 : xLink xG RX2 120 0 yX0_fill 6 := ⟨Or.inl (xg 1064 (by decide +kernel) (by decide +kernel)), (xg 432 (by decide +kernel) (by decide +kernel)), (xg 433 (by decide +kernel) (by decide +kernel)), (xg 135 (by decide +kernel) (by decide +kernel)), ⟨0, by decide, TX0, 16, rfl⟩⟩
theorem lk_X2_103 : xLink xG RX2 103 0 yX0_takeSlot 0 := ⟨Or.inl (xg 1023 (by decide +kernel) (by decide +kernel)), (xg 1024 (by decide +kernel) (by decide +kernel)), (xg 1025 (by decide +kernel) (by decide +kernel)), (xg 135 (by decide +kernel) (by decide +kernel)), ⟨0, by decide, TX0, 16, rfl⟩⟩
theorem lk_X2_106 : xLink xG RX2 106 0 yX4_find 1 := ⟨Or.inl (xg 1035 (by decide +kernel) (by decide +kernel)), (xg 1036 (by decide +kernel) (by decide +kernel)), (xg 1037 (by decide +kernel) (by decide +kernel)), (xg 133 (by decide +kernel) (by decide +kernel)), ⟨4, by decide, TX4, 4, rfl⟩⟩
theorem lk_X2_114 : xLink xG RX2 114 0 yX3_note 1 := ⟨Or.inl (xg 1053 (by decide +kernel) (by decide +kernel)), (xg 1054 (by decide +kernel) (by decide +kernel)), (xg 1055 (by decide +kernel) (by decide +kernel)), (xg 139 (by decide +kernel) (by decide +kernel)), ⟨3, by decide, TX3, 6, rfl⟩⟩
theorem cd_X2_put : Cond.code yX2_put cX2_put 2 (some .int) ∈ xG := (xg 1022 (by decide +kernel) (by decide +kernel))
theorem pr_X2_put : (∀ e ∈ pX2_put, xrow cX2_put 2 kdX2 flX2 0 false RX2 e) ∧ xnext pX2_put = true := xrows (by decide +kernel)
set_option maxRecDepth 100000 in
theorem wx_X2_put_51 (X : xCtx p R S0 m ag c0 D cA A0 sA 2 cX2_put RX2 (.code yX2_put cX2_put 2 (some .int) :: xG) 0 0) (hi : meth.name = yX2_put.name) (hroom : 7 + 2 ≤ R.frames ∧ 60 * (7 + 2) ≤ R.locals) {rr : Int32 × xM} (hE : xEnd l D cA sA cX2_put 2 (some .int) R 0 0 (some (.inl rr.1)) rr.2 p e S0 m ag below meth c0 A0 M0 ad0 Z) (fu : Nat) (s : Nat) (x1 : Int32) (M : xM) (h : J_X2_put_51 fu s x1 M = some rr) : xWx p l e R S0 m ag below meth c0 D cA A0 sA M0 ad0 2 Z 0 0 51 0 0 [(0, .inr (.inr (2, some s))), (1, .inl x1)] [] M := by
  rw [← q_X2_put_51 fu s x1 M] at h
  have hT : ∀ w ∈ xG, w ∈ (Cond.code yX2_put cX2_put 2 (some .int) :: xG) := fun w hw => List.mem_cons_of_mem _ hw
  refine xrun_sound (nst := 0) (isInit := false) (kd := kdX2) X (xcls_mono hT xclsG) (xpool_mono hT plX2) (fun z => by cases z) (fun idx v hf => xkoE_mono hT (koX2_ok _ (xfind_mem hf))) (xents (ca := _) ?_) (endI hE).1 (endI hE).2 (xcuts (cu := _) ?_) pr_X2_put.1 pr_X2_put.2 _ _ _ _ _ _ _ _ (xat_ok pr_X2_put.1 pr_X2_put.2).1 (xat_ok pr_X2_put.1 pr_X2_put.2).2.1 (xat_ok pr_X2_put.1 pr_X2_put.2).2.2 h
  · exact (List.forall_mem_cons.mpr ⟨(xent_met X (ci := 2) hT cd_X2_forgetFiles lk_X2_65 rfl (by decide) rfl (by decide +kernel) (fun z => absurd z (by decide)) (hw_X2_forgetFiles l D cA sA fu 0) (fun _ => ⟨by decide, fun _ => ⟨TX2, 16, rfl⟩⟩) (by constructor <;> omega) (by decide)), (List.forall_mem_cons.mpr ⟨(xent_met X (ci := 0) hT cd_X0_fill lk_X2_120 rfl (by decide) rfl (by decide +kernel) (fun z => absurd z (by decide)) (hw_X0_fill l D cA sA fu 0) (fun _ => ⟨by decide, fun _ => ⟨TX0, 16, rfl⟩⟩) (by constructor <;> omega) (by decide)), (fun _ h => nomatch h)⟩)⟩)
  · exact (fun _ h => nomatch h)

set_option maxRecDepth 100000 in
theorem wx_X2_put (X : xCtx p R S0 m ag c0 D cA A0 sA 2 cX2_put RX2 (.code yX2_put cX2_put 2 (some .int) :: xG) 0 0) (hi : meth.name = yX2_put.name) (hroom : 7 + 2 ≤ R.frames ∧ 60 * (7 + 2) ≤ R.locals) {rr : Int32 × xM} (hE : xEnd l D cA sA cX2_put 2 (some .int) R 0 0 (some (.inl rr.1)) rr.2 p e S0 m ag below meth c0 A0 M0 ad0 Z) (fu : Nat) (s : Nat) (M : xM) (h : F_X2_put fu s M = some rr) : xWx p l e R S0 m ag below meth c0 D cA A0 sA M0 ad0 2 Z 0 0 0 0 0 [(0, .inr (.inr (2, some s)))] [] M := by
  rw [← q_X2_put fu s M] at h
  have hT : ∀ w ∈ xG, w ∈ (Cond.code yX2_put cX2_put 2 (some .int) :: xG) := fun w hw => List.mem_cons_of_mem _ hw
  refine xrun_sound (nst := 0) (isInit := false) (kd := kdX2) X (xcls_mono hT xclsG) (xpool_mono hT plX2) (fun z => by cases z) (fun idx v hf => xkoE_mono hT (koX2_ok _ (xfind_mem hf))) (xents (ca := _) ?_) (endI hE).1 (endI hE).2 (xcuts (cu := _) ?_) pr_X2_put.1 pr_X2_put.2 _ _ _ _ _ _ _ _ (xat_ok pr_X2_put.1 pr_X2_put.2).1 (xat_ok pr_X2_put.1 pr_X2_put.2).2.1 (xat_ok pr_X2_put.1 pr_X2_put.2).2.2 h
  · exact (List.forall_mem_cons.mpr ⟨(xent_met X (ci := 0) hT cd_X0_takeSlot lk_X2_103 rfl (by decide) rfl (by decide +kernel) (fun z => absurd z (by decide)) (hw_X0_takeSlot l D cA sA fu 0) (fun _ => ⟨by decide, fun _ => ⟨TX0, 16, rfl⟩⟩) (by constructor <;> omega) (by decide)), (List.forall_mem_cons.mpr ⟨(xent_met X (ci := 4) hT cd_X4_find lk_X2_106 rfl (by decide) rfl (by decide +kernel) (fun z => absurd z (by decide)) (hw_X4_find l D cA sA fu 0) (fun _ => ⟨by decide, fun _ => ⟨TX4, 4, rfl⟩⟩) (by constructor <;> omega) (by decide)), (List.forall_mem_cons.mpr ⟨(xent_met X (ci := 3) hT cd_X3_note lk_X2_114 rfl (by decide) rfl (by decide +kernel) (fun z => absurd z (by decide)) (hw_X3_note l D cA sA fu 0) (fun _ => ⟨by decide, fun _ => ⟨TX3, 6, rfl⟩⟩) (by constructor <;> omega) (by decide)), (fun _ h => nomatch h)⟩)⟩)⟩)
  · refine (List.forall_mem_cons.mpr ⟨?_, (fun _ h => nomatch h)⟩)
    · intro bc bs ls st M h
      replace h := xz_some h
      obtain ⟨rfl, rfl, h⟩ := h
      replace h := lR_some h
      obtain ⟨o, e0, h⟩ := h
      replace h := bd_some h
      obtain ⟨s', rfl, h⟩ := h
      replace h := lI_some h
      obtain ⟨x1', e1, h⟩ := h
      replace h := xe_some h
      obtain ⟨rfl, h⟩ := h
      exact xWx_ls (wx_X2_put_51 X hi hroom hE fu s' x1' M h) (List.forall_mem_cons.mpr ⟨e0, (List.forall_mem_cons.mpr ⟨e1, (fun _ h => nomatch h)⟩)⟩)

theorem ok_X2_put (l : Launch) (D : va_G) (cA : Nat → ClassId) (sA : Nat → Nat) (fu : Nat) (s : Nat) (M : xM) {rr : Int32 × xM} (h : F_X2_put fu s M = some rr) : xMet l D cA sA yX2_put cX2_put 2 (some .int) xG (7 + 1) 0 0 [.inr (.inr (2, some s))] M (some (.inl rr.1)) rr.2 :=
  xmet_of (by decide +kernel) (Nat.le_of_ble_eq_true rfl) (fun p e s1 m ag below meth c0 A0 ad0 Z X hn hE => wx_X2_put X hn ⟨Nat.le_refl _, Nat.le_refl _⟩ hE fu s M h)
theorem hw_X2_put (l : Launch) (D : va_G) (cA : Nat → ClassId) (sA : Nat → Nat) (fu : Nat) {ρ : Type} {r0 : ρ} (kd1 : Nat) : ∀ (as : List xV) (M : xM) (k : Option xV → xM → Option ρ), w_X2_put fu as M k = some r0 → ∃ v M', xMet l D cA sA yX2_put cX2_put 2 (some .int) xG (7 + 1) 0 0 as M v M' ∧ k v M' = some r0 ∧ (kd1 ≠ 2 → ∃ a as', as = .inr (.inr (2, some a)) :: as') := by
  intro as M k h
  unfold w_X2_put at h
  replace h := pR_some h
  obtain ⟨o, as1, rfl, h⟩ := h
  replace h := bd_some h
  obtain ⟨s, rfl, h⟩ := h
  replace h := xe_some h
  obtain ⟨rfl, h⟩ := h
  obtain ⟨p1, hp, h⟩ := Option.bind_eq_some_iff.mp h
  exact ⟨_, _, ok_X2_put l D cA sA fu s M hp, h, fun _ => ⟨_, _, rfl⟩⟩
theorem lk_X2_124 : xLink xG RX2 124 0 yX2_put 0 := ⟨Or.inl (xg 1019 (by decide +kernel) (by decide +kernel)), (xg 1021 (by decide +kernel) (by decide +kernel)), (xg 21 (by decide +kernel) (by decide +kernel)), (xg 134 (by decide +kernel) (by decide +kernel)), ⟨2, by decide, TX2, 16, rfl⟩⟩
theorem lk_X2_233 : xLink xG RX2 233 0 yX0_copyNode 2 := ⟨Or.inl (xg 1065 (by decide +kernel) (by decide +kernel)), (xg 1066 (by decide +kernel) (by decide +kernel)), (xg 1067 (by decide +kernel) (by decide +kernel)), (xg 135 (by decide +kernel) (by decide +kernel)), ⟨0, by decide, TX0, 16, rfl⟩⟩
theorem lk_X2_237 : xLink xG RX2 237 0 yX0_erase 1 := ⟨Or.inl (xg 1069 (by decide +kernel) (by decide +kernel)), (xg 1070 (by decide +kernel) (by decide +kernel)), (xg 1071 (by decide +kernel) (by decide +kernel)), (xg 135 (by decide +kernel) (by decide +kernel)), ⟨0, by decide, TX0, 16, rfl⟩⟩
theorem lk_X2_226 : xLink xG RX2 226 0 yX2_picked 0 := ⟨Or.inl (xg 1013 (by decide +kernel) (by decide +kernel)), (xg 1014 (by decide +kernel) (by decide +kernel)), (xg 1015 (by decide +kernel) (by decide +kernel)), (xg 134 (by decide +kernel) (by decide +kernel)), ⟨2, by decide, TX2, 16, rfl⟩⟩
theorem lk_X2_229 : xLink xG RX2 229 0 yX0_isBlock 1 := ⟨Or.inl (xg 1018 (by decide +kernel) (by decide +kernel)), (xg 949 (by decide +kernel) (by decide +kernel)), (xg 950 (by decide +kernel) (by decide +kernel)), (xg 135 (by decide +kernel) (by decide +kernel)), ⟨0, by decide, TX0, 16, rfl⟩⟩
theorem cd_X2_collectBlock : Cond.code yX2_collectBlock cX2_collectBlock 4 (some .int) ∈ xG := (xg 1012 (by decide +kernel) (by decide +kernel))
theorem pr_X2_collectBlock : (∀ e ∈ pX2_collectBlock, xrow cX2_collectBlock 4 kdX2 flX2 0 false RX2 e) ∧ xnext pX2_collectBlock = true := xrows (by decide +kernel)
set_option maxRecDepth 100000 in
theorem wx_X2_collectBlock_28 (X : xCtx p R S0 m ag c0 D cA A0 sA 4 cX2_collectBlock RX2 (.code yX2_collectBlock cX2_collectBlock 4 (some .int) :: xG) 0 0) (hi : meth.name = yX2_collectBlock.name) (hroom : 8 + 2 ≤ R.frames ∧ 60 * (8 + 2) ≤ R.locals) {rr : Int32 × xM} (hE : xEnd l D cA sA cX2_collectBlock 4 (some .int) R 0 0 (some (.inl rr.1)) rr.2 p e S0 m ag below meth c0 A0 M0 ad0 Z) (fu : Nat) : ∀ (n : Nat) (s : Nat) (x1 : Int32) (x2 : Int32) (M : xM), L_X2_collectBlock_28 fu n s x1 x2 M = some rr → xWx p l e R S0 m ag below meth c0 D cA A0 sA M0 ad0 4 Z 0 0 28 0 0 [(0, .inr (.inr (2, some s))), (1, .inl x1), (2, .inl x2)] [] M := by
  intro n
  induction n with
  | zero => intro s x1 x2 M h; cases h
  | succ n ih =>
    intro s x1 x2 M h
    rw [← q_X2_collectBlock_28 fu n s x1 x2 M] at h
    have hT : ∀ w ∈ xG, w ∈ (Cond.code yX2_collectBlock cX2_collectBlock 4 (some .int) :: xG) := fun w hw => List.mem_cons_of_mem _ hw
    refine xrun_sound (nst := 0) (isInit := false) (kd := kdX2) X (xcls_mono hT xclsG) (xpool_mono hT plX2) (fun z => by cases z) (fun idx v hf => xkoE_mono hT (koX2_ok _ (xfind_mem hf))) (xents (ca := _) ?_) (endI hE).1 (endI hE).2 (xcuts (cu := _) ?_) pr_X2_collectBlock.1 pr_X2_collectBlock.2 _ _ _ _ _ _ _ _ (xat_ok pr_X2_collectBlock.1 pr_X2_collectBlock.2).1 (xat_ok pr_X2_collectBlock.1 pr_X2_collectBlock.2).2.1 (xat_ok pr_X2_collectBlock.1 pr_X2_collectBlock.2).2.2 h
    · exact (List.forall_mem_cons.mpr ⟨(xent_met X (ci := 2) hT cd_X2_put lk_X2_124 rfl (by decide) rfl (by decide +kernel) (fun z => absurd z (by decide)) (hw_X2_put l D cA sA fu 0) (fun _ => ⟨by decide, fun _ => ⟨TX2, 16, rfl⟩⟩) (by constructor <;> omega) (by decide)), (List.forall_mem_cons.mpr ⟨(xent_met X (ci := 0) hT cd_X0_copyNode lk_X2_233 rfl (by decide) rfl (by decide +kernel) (fun z => absurd z (by decide)) (hw_X0_copyNode l D cA sA fu 0) (fun _ => ⟨by decide, fun _ => ⟨TX0, 16, rfl⟩⟩) (by constructor <;> omega) (by decide)), (List.forall_mem_cons.mpr ⟨(xent_met X (ci := 0) hT cd_X0_erase lk_X2_237 rfl (by decide) rfl (by decide +kernel) (fun z => absurd z (by decide)) (hw_X0_erase l D cA sA fu 0) (fun _ => ⟨by decide, fun _ => ⟨TX0, 16, rfl⟩⟩) (by constructor <;> omega) (by decide)), (fun _ h => nomatch h)⟩)⟩)⟩)
    · refine (List.forall_mem_cons.mpr ⟨?_, (fun _ h => nomatch h)⟩)
      · intro bc bs ls st M h
        replace h := xz_some h
        obtain ⟨rfl, rfl, h⟩ := h
        replace h := lR_some h
        obtain ⟨o, e0, h⟩ := h
        replace h := bd_some h
        obtain ⟨s', rfl, h⟩ := h
        replace h := lI_some h
        obtain ⟨x1', e1, h⟩ := h
        replace h := lI_some h
        obtain ⟨x2', e2, h⟩ := h
        replace h := xe_some h
        obtain ⟨rfl, h⟩ := h
        exact xWx_ls (ih s' x1' x2' M h) (List.forall_mem_cons.mpr ⟨e0, (List.forall_mem_cons.mpr ⟨e1, (List.forall_mem_cons.mpr ⟨e2, (fun _ h => nomatch h)⟩)⟩)⟩)

set_option maxRecDepth 100000 in
theorem wx_X2_collectBlock (X : xCtx p R S0 m ag c0 D cA A0 sA 4 cX2_collectBlock RX2 (.code yX2_collectBlock cX2_collectBlock 4 (some .int) :: xG) 0 0) (hi : meth.name = yX2_collectBlock.name) (hroom : 8 + 2 ≤ R.frames ∧ 60 * (8 + 2) ≤ R.locals) {rr : Int32 × xM} (hE : xEnd l D cA sA cX2_collectBlock 4 (some .int) R 0 0 (some (.inl rr.1)) rr.2 p e S0 m ag below meth c0 A0 M0 ad0 Z) (fu : Nat) (s : Nat) (M : xM) (h : F_X2_collectBlock fu s M = some rr) : xWx p l e R S0 m ag below meth c0 D cA A0 sA M0 ad0 4 Z 0 0 0 0 0 [(0, .inr (.inr (2, some s)))] [] M := by
  rw [← q_X2_collectBlock fu s M] at h
  have hT : ∀ w ∈ xG, w ∈ (Cond.code yX2_collectBlock cX2_collectBlock 4 (some .int) :: xG) := fun w hw => List.mem_cons_of_mem _ hw
  refine xrun_sound (nst := 0) (isInit := false) (kd := kdX2) X (xcls_mono hT xclsG) (xpool_mono hT plX2) (fun z => by cases z) (fun idx v hf => xkoE_mono hT (koX2_ok _ (xfind_mem hf))) (xents (ca := _) ?_) (endI hE).1 (endI hE).2 (xcuts (cu := _) ?_) pr_X2_collectBlock.1 pr_X2_collectBlock.2 _ _ _ _ _ _ _ _ (xat_ok pr_X2_collectBlock.1 pr_X2_collectBlock.2).1 (xat_ok pr_X2_collectBlock.1 pr_X2_collectBlock.2).2.1 (xat_ok pr_X2_collectBlock.1 pr_X2_collectBlock.2).2.2 h
  · exact (List.forall_mem_cons.mpr ⟨(xent_met X (ci := 2) hT cd_X2_picked lk_X2_226 rfl (by decide) rfl (by decide +kernel) (fun z => absurd z (by decide)) (hw_X2_picked l D cA sA fu 0) (fun _ => ⟨by decide, fun _ => ⟨TX2, 16, rfl⟩⟩) (by constructor <;> omega) (by decide)), (List.forall_mem_cons.mpr ⟨(xent_met X (ci := 0) hT cd_X0_isBlock lk_X2_229 rfl (by decide) rfl (by decide +kernel) (fun z => absurd z (by decide)) (hw_X0_isBlock l D cA sA fu 0) (fun _ => ⟨by decide, fun _ => ⟨TX0, 16, rfl⟩⟩) (by constructor <;> omega) (by decide)), (fun _ h => nomatch h)⟩)⟩)
  · refine (List.forall_mem_cons.mpr ⟨?_, (fun _ h => nomatch h)⟩)
    · intro bc bs ls st M h
      replace h := xz_some h
      obtain ⟨rfl, rfl, h⟩ := h
      replace h := lR_some h
      obtain ⟨o, e0, h⟩ := h
      replace h := bd_some h
      obtain ⟨s', rfl, h⟩ := h
      replace h := lI_some h
      obtain ⟨x1', e1, h⟩ := h
      replace h := lI_some h
      obtain ⟨x2', e2, h⟩ := h
      replace h := xe_some h
      obtain ⟨rfl, h⟩ := h
      exact xWx_ls (wx_X2_collectBlock_28 X hi hroom hE fu fu s' x1' x2' M h) (List.forall_mem_cons.mpr ⟨e0, (List.forall_mem_cons.mpr ⟨e1, (List.forall_mem_cons.mpr ⟨e2, (fun _ h => nomatch h)⟩)⟩)⟩)

theorem ok_X2_collectBlock (l : Launch) (D : va_G) (cA : Nat → ClassId) (sA : Nat → Nat) (fu : Nat) (s : Nat) (M : xM) {rr : Int32 × xM} (h : F_X2_collectBlock fu s M = some rr) : xMet l D cA sA yX2_collectBlock cX2_collectBlock 4 (some .int) xG (8 + 1) 0 0 [.inr (.inr (2, some s))] M (some (.inl rr.1)) rr.2 :=
  xmet_of (by decide +kernel) (Nat.le_of_ble_eq_true rfl) (fun p e s1 m ag below meth c0 A0 ad0 Z X hn hE => wx_X2_collectBlock X hn ⟨Nat.le_refl _, Nat.le_refl _⟩ hE fu s M h)
theorem hw_X2_collectBlock (l : Launch) (D : va_G) (cA : Nat → ClassId) (sA : Nat → Nat) (fu : Nat) {ρ : Type} {r0 : ρ} (kd1 : Nat) : ∀ (as : List xV) (M : xM) (k : Option xV → xM → Option ρ), w_X2_collectBlock fu as M k = some r0 → ∃ v M', xMet l D cA sA yX2_collectBlock cX2_collectBlock 4 (some .int) xG (8 + 1) 0 0 as M v M' ∧ k v M' = some r0 ∧ (kd1 ≠ 2 → ∃ a as', as = .inr (.inr (2, some a)) :: as') := by
  intro as M k h
  unfold w_X2_collectBlock at h
  replace h := pR_some h
  obtain ⟨o, as1, rfl, h⟩ := h
  replace h := bd_some h
  obtain ⟨s, rfl, h⟩ := h
  replace h := xe_some h
  obtain ⟨rfl, h⟩ := h
  obtain ⟨p1, hp, h⟩ := Option.bind_eq_some_iff.mp h
  exact ⟨_, _, ok_X2_collectBlock l D cA sA fu s M hp, h, fun _ => ⟨_, _, rfl⟩⟩
theorem cd_X2_isKept : Cond.code yX2_isKept cX2_isKept 2 (some .boolean) ∈ xG := (xg 1084 (by decide +kernel) (by decide +kernel))
theorem pr_X2_isKept : (∀ e ∈ pX2_isKept, xrow cX2_isKept 2 kdX2 flX2 0 false RX2 e) ∧ xnext pX2_isKept = true := xrows (by decide +kernel)
set_option maxRecDepth 100000 in
theorem wx_X2_isKept (X : xCtx p R S0 m ag c0 D cA A0 sA 2 cX2_isKept RX2 (.code yX2_isKept cX2_isKept 2 (some .boolean) :: xG) 0 0) (hi : meth.name = yX2_isKept.name) (hroom : 0 + 2 ≤ R.frames ∧ 60 * (0 + 2) ≤ R.locals) {rr : Int32 × xM} (hE : xEnd l D cA sA cX2_isKept 2 (some .boolean) R 0 0 (some (.inl rr.1)) rr.2 p e S0 m ag below meth c0 A0 M0 ad0 Z) (fu : Nat) (s : Nat) (x1 : Int32) (M : xM) (h : F_X2_isKept fu s x1 M = some rr) : xWx p l e R S0 m ag below meth c0 D cA A0 sA M0 ad0 2 Z 0 0 0 0 0 [(0, .inr (.inr (2, some s))), (1, .inl x1)] [] M := by
  rw [← q_X2_isKept fu s x1 M] at h
  have hT : ∀ w ∈ xG, w ∈ (Cond.code yX2_isKept cX2_isKept 2 (some .boolean) :: xG) := fun w hw => List.mem_cons_of_mem _ hw
  refine xrun_sound (nst := 0) (isInit := false) (kd := kdX2) X (xcls_mono hT xclsG) (xpool_mono hT plX2) (fun z => by cases z) (fun idx v hf => xkoE_mono hT (koX2_ok _ (xfind_mem hf))) (xents (ca := _) ?_) (endZ hE).1 (endZ hE).2 (xcuts (cu := _) ?_) pr_X2_isKept.1 pr_X2_isKept.2 _ _ _ _ _ _ _ _ (xat_ok pr_X2_isKept.1 pr_X2_isKept.2).1 (xat_ok pr_X2_isKept.1 pr_X2_isKept.2).2.1 (xat_ok pr_X2_isKept.1 pr_X2_isKept.2).2.2 h
  · exact (fun _ h => nomatch h)
  · exact (fun _ h => nomatch h)

theorem ok_X2_isKept (l : Launch) (D : va_G) (cA : Nat → ClassId) (sA : Nat → Nat) (fu : Nat) (s : Nat) (x1 : Int32) (M : xM) {rr : Int32 × xM} (h : F_X2_isKept fu s x1 M = some rr) : xMet l D cA sA yX2_isKept cX2_isKept 2 (some .boolean) xG (0 + 1) 0 0 [.inr (.inr (2, some s)), .inl x1] M (some (.inl rr.1)) rr.2 :=
  xmet_of (by decide +kernel) (Nat.le_of_ble_eq_true rfl) (fun p e s1 m ag below meth c0 A0 ad0 Z X hn hE => wx_X2_isKept X hn ⟨Nat.le_refl _, Nat.le_refl _⟩ hE fu s x1 M h)
theorem hw_X2_isKept (l : Launch) (D : va_G) (cA : Nat → ClassId) (sA : Nat → Nat) (fu : Nat) {ρ : Type} {r0 : ρ} (kd1 : Nat) : ∀ (as : List xV) (M : xM) (k : Option xV → xM → Option ρ), w_X2_isKept fu as M k = some r0 → ∃ v M', xMet l D cA sA yX2_isKept cX2_isKept 2 (some .boolean) xG (0 + 1) 0 0 as M v M' ∧ k v M' = some r0 ∧ (kd1 ≠ 2 → ∃ a as', as = .inr (.inr (2, some a)) :: as') := by
  intro as M k h
  unfold w_X2_isKept at h
  replace h := pR_some h
  obtain ⟨o, as1, rfl, h⟩ := h
  replace h := bd_some h
  obtain ⟨s, rfl, h⟩ := h
  replace h := pI_some h
  obtain ⟨x1, as1, rfl, h⟩ := h
  replace h := xe_some h
  obtain ⟨rfl, h⟩ := h
  obtain ⟨p1, hp, h⟩ := Option.bind_eq_some_iff.mp h
  exact ⟨_, _, ok_X2_isKept l D cA sA fu s x1 M hp, h, fun _ => ⟨_, _, rfl⟩⟩
theorem lk_X2_217 : xLink xG RX2 217 0 yX2_isKept 1 := ⟨Or.inl (xg 1081 (by decide +kernel) (by decide +kernel)), (xg 1083 (by decide +kernel) (by decide +kernel)), (xg 28 (by decide +kernel) (by decide +kernel)), (xg 134 (by decide +kernel) (by decide +kernel)), ⟨2, by decide, TX2, 16, rfl⟩⟩
theorem cd_X2_keptPages : Cond.code yX2_keptPages cX2_keptPages 3 (some .int) ∈ xG := (xg 1080 (by decide +kernel) (by decide +kernel))
theorem pr_X2_keptPages : (∀ e ∈ pX2_keptPages, xrow cX2_keptPages 3 kdX2 flX2 0 false RX2 e) ∧ xnext pX2_keptPages = true := xrows (by decide +kernel)
set_option maxRecDepth 100000 in
theorem wx_X2_keptPages_4 (X : xCtx p R S0 m ag c0 D cA A0 sA 3 cX2_keptPages RX2 (.code yX2_keptPages cX2_keptPages 3 (some .int) :: xG) 0 0) (hi : meth.name = yX2_keptPages.name) (hroom : 1 + 2 ≤ R.frames ∧ 60 * (1 + 2) ≤ R.locals) {rr : Int32 × xM} (hE : xEnd l D cA sA cX2_keptPages 3 (some .int) R 0 0 (some (.inl rr.1)) rr.2 p e S0 m ag below meth c0 A0 M0 ad0 Z) (fu : Nat) : ∀ (n : Nat) (s : Nat) (x1 : Int32) (x2 : Int32) (M : xM), L_X2_keptPages_4 fu n s x1 x2 M = some rr → xWx p l e R S0 m ag below meth c0 D cA A0 sA M0 ad0 3 Z 0 0 4 0 0 [(0, .inr (.inr (2, some s))), (1, .inl x1), (2, .inl x2)] [] M := by
  intro n
  induction n with
  | zero => intro s x1 x2 M h; cases h
  | succ n ih =>
    intro s x1 x2 M h
    rw [← q_X2_keptPages_4 fu n s x1 x2 M] at h
    have hT : ∀ w ∈ xG, w ∈ (Cond.code yX2_keptPages cX2_keptPages 3 (some .int) :: xG) := fun w hw => List.mem_cons_of_mem _ hw
    refine xrun_sound (nst := 0) (isInit := false) (kd := kdX2) X (xcls_mono hT xclsG) (xpool_mono hT plX2) (fun z => by cases z) (fun idx v hf => xkoE_mono hT (koX2_ok _ (xfind_mem hf))) (xents (ca := _) ?_) (endI hE).1 (endI hE).2 (xcuts (cu := _) ?_) pr_X2_keptPages.1 pr_X2_keptPages.2 _ _ _ _ _ _ _ _ (xat_ok pr_X2_keptPages.1 pr_X2_keptPages.2).1 (xat_ok pr_X2_keptPages.1 pr_X2_keptPages.2).2.1 (xat_ok pr_X2_keptPages.1 pr_X2_keptPages.2).2.2 h
    · exact (List.forall_mem_cons.mpr ⟨(xent_met X (ci := 2) hT cd_X2_isKept lk_X2_217 rfl (by decide) rfl (by decide +kernel) (fun z => absurd z (by decide)) (hw_X2_isKept l D cA sA fu 0) (fun _ => ⟨by decide, fun _ => ⟨TX2, 16, rfl⟩⟩) (by constructor <;> omega) (by decide)), (fun _ h => nomatch h)⟩)
    · refine (List.forall_mem_cons.mpr ⟨?_, (fun _ h => nomatch h)⟩)
      · intro bc bs ls st M h
        replace h := xz_some h
        obtain ⟨rfl, rfl, h⟩ := h
        replace h := lR_some h
        obtain ⟨o, e0, h⟩ := h
        replace h := bd_some h
        obtain ⟨s', rfl, h⟩ := h
        replace h := lI_some h
        obtain ⟨x1', e1, h⟩ := h
        replace h := lI_some h
        obtain ⟨x2', e2, h⟩ := h
        replace h := xe_some h
        obtain ⟨rfl, h⟩ := h
        exact xWx_ls (ih s' x1' x2' M h) (List.forall_mem_cons.mpr ⟨e0, (List.forall_mem_cons.mpr ⟨e1, (List.forall_mem_cons.mpr ⟨e2, (fun _ h => nomatch h)⟩)⟩)⟩)

set_option maxRecDepth 100000 in
theorem wx_X2_keptPages (X : xCtx p R S0 m ag c0 D cA A0 sA 3 cX2_keptPages RX2 (.code yX2_keptPages cX2_keptPages 3 (some .int) :: xG) 0 0) (hi : meth.name = yX2_keptPages.name) (hroom : 1 + 2 ≤ R.frames ∧ 60 * (1 + 2) ≤ R.locals) {rr : Int32 × xM} (hE : xEnd l D cA sA cX2_keptPages 3 (some .int) R 0 0 (some (.inl rr.1)) rr.2 p e S0 m ag below meth c0 A0 M0 ad0 Z) (fu : Nat) (s : Nat) (M : xM) (h : F_X2_keptPages fu s M = some rr) : xWx p l e R S0 m ag below meth c0 D cA A0 sA M0 ad0 3 Z 0 0 0 0 0 [(0, .inr (.inr (2, some s)))] [] M := by
  rw [← q_X2_keptPages fu s M] at h
  have hT : ∀ w ∈ xG, w ∈ (Cond.code yX2_keptPages cX2_keptPages 3 (some .int) :: xG) := fun w hw => List.mem_cons_of_mem _ hw
  refine xrun_sound (nst := 0) (isInit := false) (kd := kdX2) X (xcls_mono hT xclsG) (xpool_mono hT plX2) (fun z => by cases z) (fun idx v hf => xkoE_mono hT (koX2_ok _ (xfind_mem hf))) (xents (ca := _) ?_) (endI hE).1 (endI hE).2 (xcuts (cu := _) ?_) pr_X2_keptPages.1 pr_X2_keptPages.2 _ _ _ _ _ _ _ _ (xat_ok pr_X2_keptPages.1 pr_X2_keptPages.2).1 (xat_ok pr_X2_keptPages.1 pr_X2_keptPages.2).2.1 (xat_ok pr_X2_keptPages.1 pr_X2_keptPages.2).2.2 h
  · exact (fun _ h => nomatch h)
  · refine (List.forall_mem_cons.mpr ⟨?_, (fun _ h => nomatch h)⟩)
    · intro bc bs ls st M h
      replace h := xz_some h
      obtain ⟨rfl, rfl, h⟩ := h
      replace h := lR_some h
      obtain ⟨o, e0, h⟩ := h
      replace h := bd_some h
      obtain ⟨s', rfl, h⟩ := h
      replace h := lI_some h
      obtain ⟨x1', e1, h⟩ := h
      replace h := lI_some h
      obtain ⟨x2', e2, h⟩ := h
      replace h := xe_some h
      obtain ⟨rfl, h⟩ := h
      exact xWx_ls (wx_X2_keptPages_4 X hi hroom hE fu fu s' x1' x2' M h) (List.forall_mem_cons.mpr ⟨e0, (List.forall_mem_cons.mpr ⟨e1, (List.forall_mem_cons.mpr ⟨e2, (fun _ h => nomatch h)⟩)⟩)⟩)

theorem ok_X2_keptPages (l : Launch) (D : va_G) (cA : Nat → ClassId) (sA : Nat → Nat) (fu : Nat) (s : Nat) (M : xM) {rr : Int32 × xM} (h : F_X2_keptPages fu s M = some rr) : xMet l D cA sA yX2_keptPages cX2_keptPages 3 (some .int) xG (1 + 1) 0 0 [.inr (.inr (2, some s))] M (some (.inl rr.1)) rr.2 :=
  xmet_of (by decide +kernel) (Nat.le_of_ble_eq_true rfl) (fun p e s1 m ag below meth c0 A0 ad0 Z X hn hE => wx_X2_keptPages X hn ⟨Nat.le_refl _, Nat.le_refl _⟩ hE fu s M h)
theorem hw_X2_keptPages (l : Launch) (D : va_G) (cA : Nat → ClassId) (sA : Nat → Nat) (fu : Nat) {ρ : Type} {r0 : ρ} (kd1 : Nat) : ∀ (as : List xV) (M : xM) (k : Option xV → xM → Option ρ), w_X2_keptPages fu as M k = some r0 → ∃ v M', xMet l D cA sA yX2_keptPages cX2_keptPages 3 (some .int) xG (1 + 1) 0 0 as M v M' ∧ k v M' = some r0 ∧ (kd1 ≠ 2 → ∃ a as', as = .inr (.inr (2, some a)) :: as') := by
  intro as M k h
  unfold w_X2_keptPages at h
  replace h := pR_some h
  obtain ⟨o, as1, rfl, h⟩ := h
  replace h := bd_some h
  obtain ⟨s, rfl, h⟩ := h
  replace h := xe_some h
  obtain ⟨rfl, h⟩ := h
  obtain ⟨p1, hp, h⟩ := Option.bind_eq_some_iff.mp h
  exact ⟨_, _, ok_X2_keptPages l D cA sA fu s M hp, h, fun _ => ⟨_, _, rfl⟩⟩
theorem cd_X2_partsOf : Cond.code yX2_partsOf cX2_partsOf 1 (some .int) ∈ xG := (xg 1087 (by decide +kernel) (by decide +kernel))
theorem pr_X2_partsOf : (∀ e ∈ pX2_partsOf, xrow cX2_partsOf 1 kdX2 flX2 0 false RX2 e) ∧ xnext pX2_partsOf = true := xrows (by decide +kernel)
set_option maxRecDepth 100000 in
theorem wx_X2_partsOf (X : xCtx p R S0 m ag c0 D cA A0 sA 1 cX2_partsOf RX2 (.code yX2_partsOf cX2_partsOf 1 (some .int) :: xG) 0 0) (hi : meth.name = yX2_partsOf.name) (hroom : 0 + 2 ≤ R.frames ∧ 60 * (0 + 2) ≤ R.locals) {rr : Int32 × xM} (hE : xEnd l D cA sA cX2_partsOf 1 (some .int) R 0 0 (some (.inl rr.1)) rr.2 p e S0 m ag below meth c0 A0 M0 ad0 Z) (fu : Nat) (x0 : Int32) (M : xM) (h : F_X2_partsOf fu x0 M = some rr) : xWx p l e R S0 m ag below meth c0 D cA A0 sA M0 ad0 1 Z 0 0 0 0 0 [(0, .inl x0)] [] M := by
  rw [← q_X2_partsOf fu x0 M] at h
  have hT : ∀ w ∈ xG, w ∈ (Cond.code yX2_partsOf cX2_partsOf 1 (some .int) :: xG) := fun w hw => List.mem_cons_of_mem _ hw
  refine xrun_sound (nst := 0) (isInit := false) (kd := kdX2) X (xcls_mono hT xclsG) (xpool_mono hT plX2) (fun z => by cases z) (fun idx v hf => xkoE_mono hT (koX2_ok _ (xfind_mem hf))) (xents (ca := _) ?_) (endI hE).1 (endI hE).2 (xcuts (cu := _) ?_) pr_X2_partsOf.1 pr_X2_partsOf.2 _ _ _ _ _ _ _ _ (xat_ok pr_X2_partsOf.1 pr_X2_partsOf.2).1 (xat_ok pr_X2_partsOf.1 pr_X2_partsOf.2).2.1 (xat_ok pr_X2_partsOf.1 pr_X2_partsOf.2).2.2 h
  · exact (fun _ h => nomatch h)
  · exact (fun _ h => nomatch h)

theorem ok_X2_partsOf (l : Launch) (D : va_G) (cA : Nat → ClassId) (sA : Nat → Nat) (fu : Nat) (x0 : Int32) (M : xM) {rr : Int32 × xM} (h : F_X2_partsOf fu x0 M = some rr) : xMet l D cA sA yX2_partsOf cX2_partsOf 1 (some .int) xG (0 + 1) 0 0 [.inl x0] M (some (.inl rr.1)) rr.2 :=
  xmet_of (by decide +kernel) (Nat.le_of_ble_eq_true rfl) (fun p e s1 m ag below meth c0 A0 ad0 Z X hn hE => wx_X2_partsOf X hn ⟨Nat.le_refl _, Nat.le_refl _⟩ hE fu x0 M h)
theorem hw_X2_partsOf (l : Launch) (D : va_G) (cA : Nat → ClassId) (sA : Nat → Nat) (fu : Nat) {ρ : Type} {r0 : ρ} (kd1 : Nat) (hk2 : kd1 = 2) : ∀ (as : List xV) (M : xM) (k : Option xV → xM → Option ρ), w_X2_partsOf fu as M k = some r0 → ∃ v M', xMet l D cA sA yX2_partsOf cX2_partsOf 1 (some .int) xG (0 + 1) 0 0 as M v M' ∧ k v M' = some r0 ∧ (kd1 ≠ 2 → ∃ a as', as = .inr (.inr (2, some a)) :: as') := by
  intro as M k h
  unfold w_X2_partsOf at h
  replace h := pI_some h
  obtain ⟨x0, as1, rfl, h⟩ := h
  replace h := xe_some h
  obtain ⟨rfl, h⟩ := h
  obtain ⟨p1, hp, h⟩ := Option.bind_eq_some_iff.mp h
  exact ⟨_, _, ok_X2_partsOf l D cA sA fu x0 M hp, h, fun z => absurd hk2 z⟩
theorem lk_X2_153 : xLink xG RX2 153 0 yX2_keptPages 0 := ⟨Or.inl (xg 1077 (by decide +kernel) (by decide +kernel)), (xg 1079 (by decide +kernel) (by decide +kernel)), (xg 27 (by decide +kernel) (by decide +kernel)), (xg 134 (by decide +kernel) (by decide +kernel)), ⟨2, by decide, TX2, 16, rfl⟩⟩
theorem lk_X2_156 : xLink xG RX2 156 2 yX2_partsOf 1 := ⟨(xg 1085 (by decide +kernel) (by decide +kernel)), (xg 1086 (by decide +kernel) (by decide +kernel)), (xg 134 (by decide +kernel) (by decide +kernel))⟩
theorem cd_X2_hasRoomToWrite : Cond.code yX2_hasRoomToWrite cX2_hasRoomToWrite 6 (some .boolean) ∈ xG := (xg 1076 (by decide +kernel) (by decide +kernel))
theorem pr_X2_hasRoomToWrite : (∀ e ∈ pX2_hasRoomToWrite, xrow cX2_hasRoomToWrite 6 kdX2 flX2 0 false RX2 e) ∧ xnext pX2_hasRoomToWrite = true := xrows (by decide +kernel)
set_option maxRecDepth 100000 in
theorem wx_X2_hasRoomToWrite_68 (X : xCtx p R S0 m ag c0 D cA A0 sA 6 cX2_hasRoomToWrite RX2 (.code yX2_hasRoomToWrite cX2_hasRoomToWrite 6 (some .boolean) :: xG) 0 0) (hi : meth.name = yX2_hasRoomToWrite.name) (hroom : 2 + 2 ≤ R.frames ∧ 60 * (2 + 2) ≤ R.locals) {rr : Int32 × xM} (hE : xEnd l D cA sA cX2_hasRoomToWrite 6 (some .boolean) R 0 0 (some (.inl rr.1)) rr.2 p e S0 m ag below meth c0 A0 M0 ad0 Z) (fu : Nat) (s : Nat) (x4 : Int32) (y0 : Int32) (M : xM) (h : J_X2_hasRoomToWrite_68 fu s x4 y0 M = some rr) : xWx p l e R S0 m ag below meth c0 D cA A0 sA M0 ad0 6 Z 0 0 68 0 0 [(0, .inr (.inr (2, some s))), (4, .inl x4)] [.inl y0] M := by
  rw [← q_X2_hasRoomToWrite_68 fu s x4 y0 M] at h
  have hT : ∀ w ∈ xG, w ∈ (Cond.code yX2_hasRoomToWrite cX2_hasRoomToWrite 6 (some .boolean) :: xG) := fun w hw => List.mem_cons_of_mem _ hw
  refine xrun_sound (nst := 0) (isInit := false) (kd := kdX2) X (xcls_mono hT xclsG) (xpool_mono hT plX2) (fun z => by cases z) (fun idx v hf => xkoE_mono hT (koX2_ok _ (xfind_mem hf))) (xents (ca := _) ?_) (endZ hE).1 (endZ hE).2 (xcuts (cu := _) ?_) pr_X2_hasRoomToWrite.1 pr_X2_hasRoomToWrite.2 _ _ _ _ _ _ _ _ (xat_ok pr_X2_hasRoomToWrite.1 pr_X2_hasRoomToWrite.2).1 (xat_ok pr_X2_hasRoomToWrite.1 pr_X2_hasRoomToWrite.2).2.1 (xat_ok pr_X2_hasRoomToWrite.1 pr_X2_hasRoomToWrite.2).2.2 h
  · exact (fun _ h => nomatch h)
  · exact (fun _ h => nomatch h)

set_option maxRecDepth 100000 in
theorem wx_X2_hasRoomToWrite_18 (X : xCtx p R S0 m ag c0 D cA A0 sA 6 cX2_hasRoomToWrite RX2 (.code yX2_hasRoomToWrite cX2_hasRoomToWrite 6 (some .boolean) :: xG) 0 0) (hi : meth.name = yX2_hasRoomToWrite.name) (hroom : 2 + 2 ≤ R.frames ∧ 60 * (2 + 2) ≤ R.locals) {rr : Int32 × xM} (hE : xEnd l D cA sA cX2_hasRoomToWrite 6 (some .boolean) R 0 0 (some (.inl rr.1)) rr.2 p e S0 m ag below meth c0 A0 M0 ad0 Z) (fu : Nat) (s : Nat) (x1 : Int32) (y0 : Int32) (M : xM) (h : J_X2_hasRoomToWrite_18 fu s x1 y0 M = some rr) : xWx p l e R S0 m ag below meth c0 D cA A0 sA M0 ad0 6 Z 0 0 18 0 0 [(0, .inr (.inr (2, some s))), (1, .inl x1)] [.inl y0] M := by
  rw [← q_X2_hasRoomToWrite_18 fu s x1 y0 M] at h
  have hT : ∀ w ∈ xG, w ∈ (Cond.code yX2_hasRoomToWrite cX2_hasRoomToWrite 6 (some .boolean) :: xG) := fun w hw => List.mem_cons_of_mem _ hw
  refine xrun_sound (nst := 0) (isInit := false) (kd := kdX2) X (xcls_mono hT xclsG) (xpool_mono hT plX2) (fun z => by cases z) (fun idx v hf => xkoE_mono hT (koX2_ok _ (xfind_mem hf))) (xents (ca := _) ?_) (endZ hE).1 (endZ hE).2 (xcuts (cu := _) ?_) pr_X2_hasRoomToWrite.1 pr_X2_hasRoomToWrite.2 _ _ _ _ _ _ _ _ (xat_ok pr_X2_hasRoomToWrite.1 pr_X2_hasRoomToWrite.2).1 (xat_ok pr_X2_hasRoomToWrite.1 pr_X2_hasRoomToWrite.2).2.1 (xat_ok pr_X2_hasRoomToWrite.1 pr_X2_hasRoomToWrite.2).2.2 h
  · exact (List.forall_mem_cons.mpr ⟨(xent_met X (ci := 2) hT cd_X2_keptPages lk_X2_153 rfl (by decide) rfl (by decide +kernel) (fun z => absurd z (by decide)) (hw_X2_keptPages l D cA sA fu 0) (fun _ => ⟨by decide, fun _ => ⟨TX2, 16, rfl⟩⟩) (by constructor <;> omega) (by decide)), (List.forall_mem_cons.mpr ⟨(xent_met X (ci := 2) hT cd_X2_partsOf lk_X2_156 rfl (by decide) rfl (by decide +kernel) (fun z => absurd z (by decide)) (hw_X2_partsOf l D cA sA fu 2 rfl) (fun z => absurd rfl z) (by constructor <;> omega) (by decide)), (fun _ h => nomatch h)⟩)⟩)
  · refine (List.forall_mem_cons.mpr ⟨?_, (fun _ h => nomatch h)⟩)
    · intro bc bs ls st M h
      replace h := xz_some h
      obtain ⟨rfl, rfl, h⟩ := h
      replace h := lR_some h
      obtain ⟨o, e0, h⟩ := h
      replace h := bd_some h
      obtain ⟨s', rfl, h⟩ := h
      replace h := lI_some h
      obtain ⟨x4', e4, h⟩ := h
      replace h := pI_some h
      obtain ⟨y0', st, rfl, h⟩ := h
      replace h := xe_some h
      obtain ⟨rfl, h⟩ := h
      exact xWx_ls (wx_X2_hasRoomToWrite_68 X hi hroom hE fu s' x4' y0' M h) (List.forall_mem_cons.mpr ⟨e0, (List.forall_mem_cons.mpr ⟨e4, (fun _ h => nomatch h)⟩)⟩)

set_option maxRecDepth 100000 in
theorem wx_X2_hasRoomToWrite (X : xCtx p R S0 m ag c0 D cA A0 sA 6 cX2_hasRoomToWrite RX2 (.code yX2_hasRoomToWrite cX2_hasRoomToWrite 6 (some .boolean) :: xG) 0 0) (hi : meth.name = yX2_hasRoomToWrite.name) (hroom : 2 + 2 ≤ R.frames ∧ 60 * (2 + 2) ≤ R.locals) {rr : Int32 × xM} (hE : xEnd l D cA sA cX2_hasRoomToWrite 6 (some .boolean) R 0 0 (some (.inl rr.1)) rr.2 p e S0 m ag below meth c0 A0 M0 ad0 Z) (fu : Nat) (s : Nat) (x1 : Int32) (x2 : Int32) (M : xM) (h : F_X2_hasRoomToWrite fu s x1 x2 M = some rr) : xWx p l e R S0 m ag below meth c0 D cA A0 sA M0 ad0 6 Z 0 0 0 0 0 [(0, .inr (.inr (2, some s))), (1, .inl x1), (2, .inl x2)] [] M := by
  rw [← q_X2_hasRoomToWrite fu s x1 x2 M] at h
  have hT : ∀ w ∈ xG, w ∈ (Cond.code yX2_hasRoomToWrite cX2_hasRoomToWrite 6 (some .boolean) :: xG) := fun w hw => List.mem_cons_of_mem _ hw
  refine xrun_sound (nst := 0) (isInit := false) (kd := kdX2) X (xcls_mono hT xclsG) (xpool_mono hT plX2) (fun z => by cases z) (fun idx v hf => xkoE_mono hT (koX2_ok _ (xfind_mem hf))) (xents (ca := _) ?_) (endZ hE).1 (endZ hE).2 (xcuts (cu := _) ?_) pr_X2_hasRoomToWrite.1 pr_X2_hasRoomToWrite.2 _ _ _ _ _ _ _ _ (xat_ok pr_X2_hasRoomToWrite.1 pr_X2_hasRoomToWrite.2).1 (xat_ok pr_X2_hasRoomToWrite.1 pr_X2_hasRoomToWrite.2).2.1 (xat_ok pr_X2_hasRoomToWrite.1 pr_X2_hasRoomToWrite.2).2.2 h
  · exact (fun _ h => nomatch h)
  · refine (List.forall_mem_cons.mpr ⟨?_, (fun _ h => nomatch h)⟩)
    · intro bc bs ls st M h
      replace h := xz_some h
      obtain ⟨rfl, rfl, h⟩ := h
      replace h := lR_some h
      obtain ⟨o, e0, h⟩ := h
      replace h := bd_some h
      obtain ⟨s', rfl, h⟩ := h
      replace h := lI_some h
      obtain ⟨x1', e1, h⟩ := h
      replace h := pI_some h
      obtain ⟨y0', st, rfl, h⟩ := h
      replace h := xe_some h
      obtain ⟨rfl, h⟩ := h
      exact xWx_ls (wx_X2_hasRoomToWrite_18 X hi hroom hE fu s' x1' y0' M h) (List.forall_mem_cons.mpr ⟨e0, (List.forall_mem_cons.mpr ⟨e1, (fun _ h => nomatch h)⟩)⟩)

theorem ok_X2_hasRoomToWrite (l : Launch) (D : va_G) (cA : Nat → ClassId) (sA : Nat → Nat) (fu : Nat) (s : Nat) (x1 : Int32) (x2 : Int32) (M : xM) {rr : Int32 × xM} (h : F_X2_hasRoomToWrite fu s x1 x2 M = some rr) : xMet l D cA sA yX2_hasRoomToWrite cX2_hasRoomToWrite 6 (some .boolean) xG (2 + 1) 0 0 [.inr (.inr (2, some s)), .inl x1, .inl x2] M (some (.inl rr.1)) rr.2 :=
  xmet_of (by decide +kernel) (Nat.le_of_ble_eq_true rfl) (fun p e s1 m ag below meth c0 A0 ad0 Z X hn hE => wx_X2_hasRoomToWrite X hn ⟨Nat.le_refl _, Nat.le_refl _⟩ hE fu s x1 x2 M h)
theorem hw_X2_hasRoomToWrite (l : Launch) (D : va_G) (cA : Nat → ClassId) (sA : Nat → Nat) (fu : Nat) {ρ : Type} {r0 : ρ} (kd1 : Nat) : ∀ (as : List xV) (M : xM) (k : Option xV → xM → Option ρ), w_X2_hasRoomToWrite fu as M k = some r0 → ∃ v M', xMet l D cA sA yX2_hasRoomToWrite cX2_hasRoomToWrite 6 (some .boolean) xG (2 + 1) 0 0 as M v M' ∧ k v M' = some r0 ∧ (kd1 ≠ 2 → ∃ a as', as = .inr (.inr (2, some a)) :: as') := by
  intro as M k h
  unfold w_X2_hasRoomToWrite at h
  replace h := pR_some h
  obtain ⟨o, as1, rfl, h⟩ := h
  replace h := bd_some h
  obtain ⟨s, rfl, h⟩ := h
  replace h := pI_some h
  obtain ⟨x1, as1, rfl, h⟩ := h
  replace h := pI_some h
  obtain ⟨x2, as1, rfl, h⟩ := h
  replace h := xe_some h
  obtain ⟨rfl, h⟩ := h
  obtain ⟨p1, hp, h⟩ := Option.bind_eq_some_iff.mp h
  exact ⟨_, _, ok_X2_hasRoomToWrite l D cA sA fu s x1 x2 M hp, h, fun _ => ⟨_, _, rfl⟩⟩
theorem cd_X2_putNew : Cond.code yX2_putNew cX2_putNew 6 (some .boolean) ∈ xG := (xg 1091 (by decide +kernel) (by decide +kernel))
theorem pr_X2_putNew : (∀ e ∈ pX2_putNew, xrow cX2_putNew 6 kdX2 flX2 0 false RX2 e) ∧ xnext pX2_putNew = true := xrows (by decide +kernel)
set_option maxRecDepth 100000 in
theorem wx_X2_putNew (X : xCtx p R S0 m ag c0 D cA A0 sA 6 cX2_putNew RX2 (.code yX2_putNew cX2_putNew 6 (some .boolean) :: xG) 0 0) (hi : meth.name = yX2_putNew.name) (hroom : 8 + 2 ≤ R.frames ∧ 60 * (8 + 2) ≤ R.locals) {rr : Int32 × xM} (hE : xEnd l D cA sA cX2_putNew 6 (some .boolean) R 0 0 (some (.inl rr.1)) rr.2 p e S0 m ag below meth c0 A0 M0 ad0 Z) (fu : Nat) (s : Nat) (x1 : Int32) (x2 : Int32) (x3 : Int32) (x4 : Int32) (M : xM) (h : F_X2_putNew fu s x1 x2 x3 x4 M = some rr) : xWx p l e R S0 m ag below meth c0 D cA A0 sA M0 ad0 6 Z 0 0 0 0 0 [(0, .inr (.inr (2, some s))), (1, .inl x1), (2, .inl x2), (3, .inl x3), (4, .inl x4)] [] M := by
  rw [← q_X2_putNew fu s x1 x2 x3 x4 M] at h
  have hT : ∀ w ∈ xG, w ∈ (Cond.code yX2_putNew cX2_putNew 6 (some .boolean) :: xG) := fun w hw => List.mem_cons_of_mem _ hw
  refine xrun_sound (nst := 0) (isInit := false) (kd := kdX2) X (xcls_mono hT xclsG) (xpool_mono hT plX2) (fun z => by cases z) (fun idx v hf => xkoE_mono hT (koX2_ok _ (xfind_mem hf))) (xents (ca := _) ?_) (endZ hE).1 (endZ hE).2 (xcuts (cu := _) ?_) pr_X2_putNew.1 pr_X2_putNew.2 _ _ _ _ _ _ _ _ (xat_ok pr_X2_putNew.1 pr_X2_putNew.2).1 (xat_ok pr_X2_putNew.1 pr_X2_putNew.2).2.1 (xat_ok pr_X2_putNew.1 pr_X2_putNew.2).2.2 h
  · exact (List.forall_mem_cons.mpr ⟨(xent_met X (ci := 0) hT cd_X0_fill lk_X2_120 rfl (by decide) rfl (by decide +kernel) (fun z => absurd z (by decide)) (hw_X0_fill l D cA sA fu 0) (fun _ => ⟨by decide, fun _ => ⟨TX0, 16, rfl⟩⟩) (by constructor <;> omega) (by decide)), (List.forall_mem_cons.mpr ⟨(xent_met X (ci := 2) hT cd_X2_put lk_X2_124 rfl (by decide) rfl (by decide +kernel) (fun z => absurd z (by decide)) (hw_X2_put l D cA sA fu 0) (fun _ => ⟨by decide, fun _ => ⟨TX2, 16, rfl⟩⟩) (by constructor <;> omega) (by decide)), (fun _ h => nomatch h)⟩)⟩)
  · exact (fun _ h => nomatch h)

theorem ok_X2_putNew (l : Launch) (D : va_G) (cA : Nat → ClassId) (sA : Nat → Nat) (fu : Nat) (s : Nat) (x1 : Int32) (x2 : Int32) (x3 : Int32) (x4 : Int32) (M : xM) {rr : Int32 × xM} (h : F_X2_putNew fu s x1 x2 x3 x4 M = some rr) : xMet l D cA sA yX2_putNew cX2_putNew 6 (some .boolean) xG (8 + 1) 0 0 [.inr (.inr (2, some s)), .inl x1, .inl x2, .inl x3, .inl x4] M (some (.inl rr.1)) rr.2 :=
  xmet_of (by decide +kernel) (Nat.le_of_ble_eq_true rfl) (fun p e s1 m ag below meth c0 A0 ad0 Z X hn hE => wx_X2_putNew X hn ⟨Nat.le_refl _, Nat.le_refl _⟩ hE fu s x1 x2 x3 x4 M h)
theorem hw_X2_putNew (l : Launch) (D : va_G) (cA : Nat → ClassId) (sA : Nat → Nat) (fu : Nat) {ρ : Type} {r0 : ρ} (kd1 : Nat) : ∀ (as : List xV) (M : xM) (k : Option xV → xM → Option ρ), w_X2_putNew fu as M k = some r0 → ∃ v M', xMet l D cA sA yX2_putNew cX2_putNew 6 (some .boolean) xG (8 + 1) 0 0 as M v M' ∧ k v M' = some r0 ∧ (kd1 ≠ 2 → ∃ a as', as = .inr (.inr (2, some a)) :: as') := by
  intro as M k h
  unfold w_X2_putNew at h
  replace h := pR_some h
  obtain ⟨o, as1, rfl, h⟩ := h
  replace h := bd_some h
  obtain ⟨s, rfl, h⟩ := h
  replace h := pI_some h
  obtain ⟨x1, as1, rfl, h⟩ := h
  replace h := pI_some h
  obtain ⟨x2, as1, rfl, h⟩ := h
  replace h := pI_some h
  obtain ⟨x3, as1, rfl, h⟩ := h
  replace h := pI_some h
  obtain ⟨x4, as1, rfl, h⟩ := h
  replace h := xe_some h
  obtain ⟨rfl, h⟩ := h
  obtain ⟨p1, hp, h⟩ := Option.bind_eq_some_iff.mp h
  exact ⟨_, _, ok_X2_putNew l D cA sA fu s x1 x2 x3 x4 M hp, h, fun _ => ⟨_, _, rfl⟩⟩
theorem cd_X2_parts : Cond.code yX2_parts cX2_parts 1 (some .int) ∈ xG := (xg 1099 (by decide +kernel) (by decide +kernel))
theorem pr_X2_parts : (∀ e ∈ pX2_parts, xrow cX2_parts 1 kdX2 flX2 0 false RX2 e) ∧ xnext pX2_parts = true := xrows (by decide +kernel)
set_option maxRecDepth 100000 in
theorem wx_X2_parts (X : xCtx p R S0 m ag c0 D cA A0 sA 1 cX2_parts RX2 (.code yX2_parts cX2_parts 1 (some .int) :: xG) 0 0) (hi : meth.name = yX2_parts.name) (hroom : 2 + 2 ≤ R.frames ∧ 60 * (2 + 2) ≤ R.locals) {rr : Int32 × xM} (hE : xEnd l D cA sA cX2_parts 1 (some .int) R 0 0 (some (.inl rr.1)) rr.2 p e S0 m ag below meth c0 A0 M0 ad0 Z) (fu : Nat) (s : Nat) (M : xM) (h : F_X2_parts fu s M = some rr) : xWx p l e R S0 m ag below meth c0 D cA A0 sA M0 ad0 1 Z 0 0 0 0 0 [(0, .inr (.inr (2, some s)))] [] M := by
  rw [← q_X2_parts fu s M] at h
  have hT : ∀ w ∈ xG, w ∈ (Cond.code yX2_parts cX2_parts 1 (some .int) :: xG) := fun w hw => List.mem_cons_of_mem _ hw
  refine xrun_sound (nst := 0) (isInit := false) (kd := kdX2) X (xcls_mono hT xclsG) (xpool_mono hT plX2) (fun z => by cases z) (fun idx v hf => xkoE_mono hT (koX2_ok _ (xfind_mem hf))) (xents (ca := _) ?_) (endI hE).1 (endI hE).2 (xcuts (cu := _) ?_) pr_X2_parts.1 pr_X2_parts.2 _ _ _ _ _ _ _ _ (xat_ok pr_X2_parts.1 pr_X2_parts.2).1 (xat_ok pr_X2_parts.1 pr_X2_parts.2).2.1 (xat_ok pr_X2_parts.1 pr_X2_parts.2).2.2 h
  · exact (List.forall_mem_cons.mpr ⟨(xent_met X (ci := 2) hT cd_X2_keptPages lk_X2_153 rfl (by decide) rfl (by decide +kernel) (fun z => absurd z (by decide)) (hw_X2_keptPages l D cA sA fu 0) (fun _ => ⟨by decide, fun _ => ⟨TX2, 16, rfl⟩⟩) (by constructor <;> omega) (by decide)), (List.forall_mem_cons.mpr ⟨(xent_met X (ci := 2) hT cd_X2_partsOf lk_X2_156 rfl (by decide) rfl (by decide +kernel) (fun z => absurd z (by decide)) (hw_X2_partsOf l D cA sA fu 2 rfl) (fun z => absurd rfl z) (by constructor <;> omega) (by decide)), (fun _ h => nomatch h)⟩)⟩)
  · exact (fun _ h => nomatch h)

theorem ok_X2_parts (l : Launch) (D : va_G) (cA : Nat → ClassId) (sA : Nat → Nat) (fu : Nat) (s : Nat) (M : xM) {rr : Int32 × xM} (h : F_X2_parts fu s M = some rr) : xMet l D cA sA yX2_parts cX2_parts 1 (some .int) xG (2 + 1) 0 0 [.inr (.inr (2, some s))] M (some (.inl rr.1)) rr.2 :=
  xmet_of (by decide +kernel) (Nat.le_of_ble_eq_true rfl) (fun p e s1 m ag below meth c0 A0 ad0 Z X hn hE => wx_X2_parts X hn ⟨Nat.le_refl _, Nat.le_refl _⟩ hE fu s M h)
theorem hw_X2_parts (l : Launch) (D : va_G) (cA : Nat → ClassId) (sA : Nat → Nat) (fu : Nat) {ρ : Type} {r0 : ρ} (kd1 : Nat) : ∀ (as : List xV) (M : xM) (k : Option xV → xM → Option ρ), w_X2_parts fu as M k = some r0 → ∃ v M', xMet l D cA sA yX2_parts cX2_parts 1 (some .int) xG (2 + 1) 0 0 as M v M' ∧ k v M' = some r0 ∧ (kd1 ≠ 2 → ∃ a as', as = .inr (.inr (2, some a)) :: as') := by
  intro as M k h
  unfold w_X2_parts at h
  replace h := pR_some h
  obtain ⟨o, as1, rfl, h⟩ := h
  replace h := bd_some h
  obtain ⟨s, rfl, h⟩ := h
  replace h := xe_some h
  obtain ⟨rfl, h⟩ := h
  obtain ⟨p1, hp, h⟩ := Option.bind_eq_some_iff.mp h
  exact ⟨_, _, ok_X2_parts l D cA sA fu s M hp, h, fun _ => ⟨_, _, rfl⟩⟩
theorem cd_X2_fillPart : Cond.code yX2_fillPart cX2_fillPart 7 (some .int) ∈ xG := (xg 1103 (by decide +kernel) (by decide +kernel))
theorem pr_X2_fillPart : (∀ e ∈ pX2_fillPart, xrow cX2_fillPart 7 kdX2 flX2 0 false RX2 e) ∧ xnext pX2_fillPart = true := xrows (by decide +kernel)
set_option maxRecDepth 100000 in
theorem wx_X2_fillPart_75 (X : xCtx p R S0 m ag c0 D cA A0 sA 7 cX2_fillPart RX2 (.code yX2_fillPart cX2_fillPart 7 (some .int) :: xG) 0 0) (hi : meth.name = yX2_fillPart.name) (hroom : 1 + 2 ≤ R.frames ∧ 60 * (1 + 2) ≤ R.locals) {rr : Int32 × xM} (hE : xEnd l D cA sA cX2_fillPart 7 (some .int) R 0 0 (some (.inl rr.1)) rr.2 p e S0 m ag below meth c0 A0 M0 ad0 Z) (fu : Nat) (s : Nat) (x1 : Int32) (x2 : Int32) (x3 : Int32) (x5 : Int32) (x6 : Int32) (M : xM) (h : J_X2_fillPart_75 fu s x1 x2 x3 x5 x6 M = some rr) : xWx p l e R S0 m ag below meth c0 D cA A0 sA M0 ad0 7 Z 0 0 75 0 0 [(0, .inr (.inr (2, some s))), (1, .inl x1), (2, .inl x2), (3, .inl x3), (5, .inl x5), (6, .inl x6)] [] M := by
  rw [← q_X2_fillPart_75 fu s x1 x2 x3 x5 x6 M] at h
  have hT : ∀ w ∈ xG, w ∈ (Cond.code yX2_fillPart cX2_fillPart 7 (some .int) :: xG) := fun w hw => List.mem_cons_of_mem _ hw
  refine xrun_sound (nst := 0) (isInit := false) (kd := kdX2) X (xcls_mono hT xclsG) (xpool_mono hT plX2) (fun z => by cases z) (fun idx v hf => xkoE_mono hT (koX2_ok _ (xfind_mem hf))) (xents (ca := _) ?_) (endI hE).1 (endI hE).2 (xcuts (cu := _) ?_) pr_X2_fillPart.1 pr_X2_fillPart.2 _ _ _ _ _ _ _ _ (xat_ok pr_X2_fillPart.1 pr_X2_fillPart.2).1 (xat_ok pr_X2_fillPart.1 pr_X2_fillPart.2).2.1 (xat_ok pr_X2_fillPart.1 pr_X2_fillPart.2).2.2 h
  · exact (List.forall_mem_cons.mpr ⟨(xent_met X (ci := 0) hT cd_X0_fill lk_X2_120 rfl (by decide) rfl (by decide +kernel) (fun z => absurd z (by decide)) (hw_X0_fill l D cA sA fu 0) (fun _ => ⟨by decide, fun _ => ⟨TX0, 16, rfl⟩⟩) (by constructor <;> omega) (by decide)), (fun _ h => nomatch h)⟩)
  · exact (fun _ h => nomatch h)

set_option maxRecDepth 100000 in
theorem wx_X2_fillPart_7 (X : xCtx p R S0 m ag c0 D cA A0 sA 7 cX2_fillPart RX2 (.code yX2_fillPart cX2_fillPart 7 (some .int) :: xG) 0 0) (hi : meth.name = yX2_fillPart.name) (hroom : 1 + 2 ≤ R.frames ∧ 60 * (1 + 2) ≤ R.locals) {rr : Int32 × xM} (hE : xEnd l D cA sA cX2_fillPart 7 (some .int) R 0 0 (some (.inl rr.1)) rr.2 p e S0 m ag below meth c0 A0 M0 ad0 Z) (fu : Nat) : ∀ (n : Nat) (s : Nat) (x1 : Int32) (x2 : Int32) (x3 : Int32) (x5 : Int32) (x6 : Int32) (M : xM), L_X2_fillPart_7 fu n s x1 x2 x3 x5 x6 M = some rr → xWx p l e R S0 m ag below meth c0 D cA A0 sA M0 ad0 7 Z 0 0 7 0 0 [(0, .inr (.inr (2, some s))), (1, .inl x1), (2, .inl x2), (3, .inl x3), (5, .inl x5), (6, .inl x6)] [] M := by
  intro n
  induction n with
  | zero => intro s x1 x2 x3 x5 x6 M h; cases h
  | succ n ih =>
    intro s x1 x2 x3 x5 x6 M h
    rw [← q_X2_fillPart_7 fu n s x1 x2 x3 x5 x6 M] at h
    have hT : ∀ w ∈ xG, w ∈ (Cond.code yX2_fillPart cX2_fillPart 7 (some .int) :: xG) := fun w hw => List.mem_cons_of_mem _ hw
    refine xrun_sound (nst := 0) (isInit := false) (kd := kdX2) X (xcls_mono hT xclsG) (xpool_mono hT plX2) (fun z => by cases z) (fun idx v hf => xkoE_mono hT (koX2_ok _ (xfind_mem hf))) (xents (ca := _) ?_) (endI hE).1 (endI hE).2 (xcuts (cu := _) ?_) pr_X2_fillPart.1 pr_X2_fillPart.2 _ _ _ _ _ _ _ _ (xat_ok pr_X2_fillPart.1 pr_X2_fillPart.2).1 (xat_ok pr_X2_fillPart.1 pr_X2_fillPart.2).2.1 (xat_ok pr_X2_fillPart.1 pr_X2_fillPart.2).2.2 h
    · exact (List.forall_mem_cons.mpr ⟨(xent_met X (ci := 2) hT cd_X2_isKept lk_X2_217 rfl (by decide) rfl (by decide +kernel) (fun z => absurd z (by decide)) (hw_X2_isKept l D cA sA fu 0) (fun _ => ⟨by decide, fun _ => ⟨TX2, 16, rfl⟩⟩) (by constructor <;> omega) (by decide)), (fun _ h => nomatch h)⟩)
    · refine (List.forall_mem_cons.mpr ⟨?_, (List.forall_mem_cons.mpr ⟨?_, (fun _ h => nomatch h)⟩)⟩)
      · intro bc bs ls st M h
        replace h := xz_some h
        obtain ⟨rfl, rfl, h⟩ := h
        replace h := lR_some h
        obtain ⟨o, e0, h⟩ := h
        replace h := bd_some h
        obtain ⟨s', rfl, h⟩ := h
        replace h := lI_some h
        obtain ⟨x1', e1, h⟩ := h
        replace h := lI_some h
        obtain ⟨x2', e2, h⟩ := h
        replace h := lI_some h
        obtain ⟨x3', e3, h⟩ := h
        replace h := lI_some h
        obtain ⟨x5', e5, h⟩ := h
        replace h := lI_some h
        obtain ⟨x6', e6, h⟩ := h
        replace h := xe_some h
        obtain ⟨rfl, h⟩ := h
        exact xWx_ls (ih s' x1' x2' x3' x5' x6' M h) (List.forall_mem_cons.mpr ⟨e0, (List.forall_mem_cons.mpr ⟨e1, (List.forall_mem_cons.mpr ⟨e2, (List.forall_mem_cons.mpr ⟨e3, (List.forall_mem_cons.mpr ⟨e5, (List.forall_mem_cons.mpr ⟨e6, (fun _ h => nomatch h)⟩)⟩)⟩)⟩)⟩)⟩)
      · intro bc bs ls st M h
        replace h := xz_some h
        obtain ⟨rfl, rfl, h⟩ := h
        replace h := lR_some h
        obtain ⟨o, e0, h⟩ := h
        replace h := bd_some h
        obtain ⟨s', rfl, h⟩ := h
        replace h := lI_some h
        obtain ⟨x1', e1, h⟩ := h
        replace h := lI_some h
        obtain ⟨x2', e2, h⟩ := h
        replace h := lI_some h
        obtain ⟨x3', e3, h⟩ := h
        replace h := lI_some h
        obtain ⟨x5', e5, h⟩ := h
        replace h := lI_some h
        obtain ⟨x6', e6, h⟩ := h
        replace h := xe_some h
        obtain ⟨rfl, h⟩ := h
        exact xWx_ls (wx_X2_fillPart_75 X hi hroom hE fu s' x1' x2' x3' x5' x6' M h) (List.forall_mem_cons.mpr ⟨e0, (List.forall_mem_cons.mpr ⟨e1, (List.forall_mem_cons.mpr ⟨e2, (List.forall_mem_cons.mpr ⟨e3, (List.forall_mem_cons.mpr ⟨e5, (List.forall_mem_cons.mpr ⟨e6, (fun _ h => nomatch h)⟩)⟩)⟩)⟩)⟩)⟩)

set_option maxRecDepth 100000 in
theorem wx_X2_fillPart (X : xCtx p R S0 m ag c0 D cA A0 sA 7 cX2_fillPart RX2 (.code yX2_fillPart cX2_fillPart 7 (some .int) :: xG) 0 0) (hi : meth.name = yX2_fillPart.name) (hroom : 1 + 2 ≤ R.frames ∧ 60 * (1 + 2) ≤ R.locals) {rr : Int32 × xM} (hE : xEnd l D cA sA cX2_fillPart 7 (some .int) R 0 0 (some (.inl rr.1)) rr.2 p e S0 m ag below meth c0 A0 M0 ad0 Z) (fu : Nat) (s : Nat) (x1 : Int32) (x2 : Int32) (x3 : Int32) (x4 : Int32) (M : xM) (h : F_X2_fillPart fu s x1 x2 x3 x4 M = some rr) : xWx p l e R S0 m ag below meth c0 D cA A0 sA M0 ad0 7 Z 0 0 0 0 0 [(0, .inr (.inr (2, some s))), (1, .inl x1), (2, .inl x2), (3, .inl x3), (4, .inl x4)] [] M := by
  rw [← q_X2_fillPart fu s x1 x2 x3 x4 M] at h
  have hT : ∀ w ∈ xG, w ∈ (Cond.code yX2_fillPart cX2_fillPart 7 (some .int) :: xG) := fun w hw => List.mem_cons_of_mem _ hw
  refine xrun_sound (nst := 0) (isInit := false) (kd := kdX2) X (xcls_mono hT xclsG) (xpool_mono hT plX2) (fun z => by cases z) (fun idx v hf => xkoE_mono hT (koX2_ok _ (xfind_mem hf))) (xents (ca := _) ?_) (endI hE).1 (endI hE).2 (xcuts (cu := _) ?_) pr_X2_fillPart.1 pr_X2_fillPart.2 _ _ _ _ _ _ _ _ (xat_ok pr_X2_fillPart.1 pr_X2_fillPart.2).1 (xat_ok pr_X2_fillPart.1 pr_X2_fillPart.2).2.1 (xat_ok pr_X2_fillPart.1 pr_X2_fillPart.2).2.2 h
  · exact (fun _ h => nomatch h)
  · refine (List.forall_mem_cons.mpr ⟨?_, (fun _ h => nomatch h)⟩)
    · intro bc bs ls st M h
      replace h := xz_some h
      obtain ⟨rfl, rfl, h⟩ := h
      replace h := lR_some h
      obtain ⟨o, e0, h⟩ := h
      replace h := bd_some h
      obtain ⟨s', rfl, h⟩ := h
      replace h := lI_some h
      obtain ⟨x1', e1, h⟩ := h
      replace h := lI_some h
      obtain ⟨x2', e2, h⟩ := h
      replace h := lI_some h
      obtain ⟨x3', e3, h⟩ := h
      replace h := lI_some h
      obtain ⟨x5', e5, h⟩ := h
      replace h := lI_some h
      obtain ⟨x6', e6, h⟩ := h
      replace h := xe_some h
      obtain ⟨rfl, h⟩ := h
      exact xWx_ls (wx_X2_fillPart_7 X hi hroom hE fu fu s' x1' x2' x3' x5' x6' M h) (List.forall_mem_cons.mpr ⟨e0, (List.forall_mem_cons.mpr ⟨e1, (List.forall_mem_cons.mpr ⟨e2, (List.forall_mem_cons.mpr ⟨e3, (List.forall_mem_cons.mpr ⟨e5, (List.forall_mem_cons.mpr ⟨e6, (fun _ h => nomatch h)⟩)⟩)⟩)⟩)⟩)⟩)

theorem ok_X2_fillPart (l : Launch) (D : va_G) (cA : Nat → ClassId) (sA : Nat → Nat) (fu : Nat) (s : Nat) (x1 : Int32) (x2 : Int32) (x3 : Int32) (x4 : Int32) (M : xM) {rr : Int32 × xM} (h : F_X2_fillPart fu s x1 x2 x3 x4 M = some rr) : xMet l D cA sA yX2_fillPart cX2_fillPart 7 (some .int) xG (1 + 1) 0 0 [.inr (.inr (2, some s)), .inl x1, .inl x2, .inl x3, .inl x4] M (some (.inl rr.1)) rr.2 :=
  xmet_of (by decide +kernel) (Nat.le_of_ble_eq_true rfl) (fun p e s1 m ag below meth c0 A0 ad0 Z X hn hE => wx_X2_fillPart X hn ⟨Nat.le_refl _, Nat.le_refl _⟩ hE fu s x1 x2 x3 x4 M h)
theorem hw_X2_fillPart (l : Launch) (D : va_G) (cA : Nat → ClassId) (sA : Nat → Nat) (fu : Nat) {ρ : Type} {r0 : ρ} (kd1 : Nat) : ∀ (as : List xV) (M : xM) (k : Option xV → xM → Option ρ), w_X2_fillPart fu as M k = some r0 → ∃ v M', xMet l D cA sA yX2_fillPart cX2_fillPart 7 (some .int) xG (1 + 1) 0 0 as M v M' ∧ k v M' = some r0 ∧ (kd1 ≠ 2 → ∃ a as', as = .inr (.inr (2, some a)) :: as') := by
  intro as M k h
  unfold w_X2_fillPart at h
  replace h := pR_some h
  obtain ⟨o, as1, rfl, h⟩ := h
  replace h := bd_some h
  obtain ⟨s, rfl, h⟩ := h
  replace h := pI_some h
  obtain ⟨x1, as1, rfl, h⟩ := h
  replace h := pI_some h
  obtain ⟨x2, as1, rfl, h⟩ := h
  replace h := pI_some h
  obtain ⟨x3, as1, rfl, h⟩ := h
  replace h := pI_some h
  obtain ⟨x4, as1, rfl, h⟩ := h
  replace h := xe_some h
  obtain ⟨rfl, h⟩ := h
  obtain ⟨p1, hp, h⟩ := Option.bind_eq_some_iff.mp h
  exact ⟨_, _, ok_X2_fillPart l D cA sA fu s x1 x2 x3 x4 M hp, h, fun _ => ⟨_, _, rfl⟩⟩
theorem lk_X2_208 : xLink xG RX2 208 0 yX2_fillPart 4 := ⟨Or.inl (xg 1100 (by decide +kernel) (by decide +kernel)), (xg 1102 (by decide +kernel) (by decide +kernel)), (xg 30 (by decide +kernel) (by decide +kernel)), (xg 134 (by decide +kernel) (by decide +kernel)), ⟨2, by decide, TX2, 16, rfl⟩⟩
theorem lk_X2_205 : xLink xG RX2 205 0 yX2_parts 0 := ⟨Or.inl (xg 1096 (by decide +kernel) (by decide +kernel)), (xg 1097 (by decide +kernel) (by decide +kernel)), (xg 1098 (by decide +kernel) (by decide +kernel)), (xg 134 (by decide +kernel) (by decide +kernel)), ⟨2, by decide, TX2, 16, rfl⟩⟩
theorem cd_X2_commitPages : Cond.code yX2_commitPages cX2_commitPages 5 (some .int) ∈ xG := (xg 1095 (by decide +kernel) (by decide +kernel))
theorem pr_X2_commitPages : (∀ e ∈ pX2_commitPages, xrow cX2_commitPages 5 kdX2 flX2 0 false RX2 e) ∧ xnext pX2_commitPages = true := xrows (by decide +kernel)
set_option maxRecDepth 100000 in
theorem wx_X2_commitPages_29 (X : xCtx p R S0 m ag c0 D cA A0 sA 5 cX2_commitPages RX2 (.code yX2_commitPages cX2_commitPages 5 (some .int) :: xG) 0 0) (hi : meth.name = yX2_commitPages.name) (hroom : 8 + 2 ≤ R.frames ∧ 60 * (8 + 2) ≤ R.locals) {rr : Int32 × xM} (hE : xEnd l D cA sA cX2_commitPages 5 (some .int) R 0 0 (some (.inl rr.1)) rr.2 p e S0 m ag below meth c0 A0 M0 ad0 Z) (fu : Nat) : ∀ (n : Nat) (s : Nat) (x1 : Int32) (x2 : Int32) (x3 : Int32) (M : xM), L_X2_commitPages_29 fu n s x1 x2 x3 M = some rr → xWx p l e R S0 m ag below meth c0 D cA A0 sA M0 ad0 5 Z 0 0 29 0 0 [(0, .inr (.inr (2, some s))), (1, .inl x1), (2, .inl x2), (3, .inl x3)] [] M := by
  intro n
  induction n with
  | zero => intro s x1 x2 x3 M h; cases h
  | succ n ih =>
    intro s x1 x2 x3 M h
    rw [← q_X2_commitPages_29 fu n s x1 x2 x3 M] at h
    have hT : ∀ w ∈ xG, w ∈ (Cond.code yX2_commitPages cX2_commitPages 5 (some .int) :: xG) := fun w hw => List.mem_cons_of_mem _ hw
    refine xrun_sound (nst := 0) (isInit := false) (kd := kdX2) X (xcls_mono hT xclsG) (xpool_mono hT plX2) (fun z => by cases z) (fun idx v hf => xkoE_mono hT (koX2_ok _ (xfind_mem hf))) (xents (ca := _) ?_) (endI hE).1 (endI hE).2 (xcuts (cu := _) ?_) pr_X2_commitPages.1 pr_X2_commitPages.2 _ _ _ _ _ _ _ _ (xat_ok pr_X2_commitPages.1 pr_X2_commitPages.2).1 (xat_ok pr_X2_commitPages.1 pr_X2_commitPages.2).2.1 (xat_ok pr_X2_commitPages.1 pr_X2_commitPages.2).2.2 h
    · exact (List.forall_mem_cons.mpr ⟨(xent_met X (ci := 2) hT cd_X2_put lk_X2_124 rfl (by decide) rfl (by decide +kernel) (fun z => absurd z (by decide)) (hw_X2_put l D cA sA fu 0) (fun _ => ⟨by decide, fun _ => ⟨TX2, 16, rfl⟩⟩) (by constructor <;> omega) (by decide)), (List.forall_mem_cons.mpr ⟨(xent_met X (ci := 2) hT cd_X2_fillPart lk_X2_208 rfl (by decide) rfl (by decide +kernel) (fun z => absurd z (by decide)) (hw_X2_fillPart l D cA sA fu 0) (fun _ => ⟨by decide, fun _ => ⟨TX2, 16, rfl⟩⟩) (by constructor <;> omega) (by decide)), (fun _ h => nomatch h)⟩)⟩)
    · refine (List.forall_mem_cons.mpr ⟨?_, (fun _ h => nomatch h)⟩)
      · intro bc bs ls st M h
        replace h := xz_some h
        obtain ⟨rfl, rfl, h⟩ := h
        replace h := lR_some h
        obtain ⟨o, e0, h⟩ := h
        replace h := bd_some h
        obtain ⟨s', rfl, h⟩ := h
        replace h := lI_some h
        obtain ⟨x1', e1, h⟩ := h
        replace h := lI_some h
        obtain ⟨x2', e2, h⟩ := h
        replace h := lI_some h
        obtain ⟨x3', e3, h⟩ := h
        replace h := xe_some h
        obtain ⟨rfl, h⟩ := h
        exact xWx_ls (ih s' x1' x2' x3' M h) (List.forall_mem_cons.mpr ⟨e0, (List.forall_mem_cons.mpr ⟨e1, (List.forall_mem_cons.mpr ⟨e2, (List.forall_mem_cons.mpr ⟨e3, (fun _ h => nomatch h)⟩)⟩)⟩)⟩)

set_option maxRecDepth 100000 in
theorem wx_X2_commitPages (X : xCtx p R S0 m ag c0 D cA A0 sA 5 cX2_commitPages RX2 (.code yX2_commitPages cX2_commitPages 5 (some .int) :: xG) 0 0) (hi : meth.name = yX2_commitPages.name) (hroom : 8 + 2 ≤ R.frames ∧ 60 * (8 + 2) ≤ R.locals) {rr : Int32 × xM} (hE : xEnd l D cA sA cX2_commitPages 5 (some .int) R 0 0 (some (.inl rr.1)) rr.2 p e S0 m ag below meth c0 A0 M0 ad0 Z) (fu : Nat) (s : Nat) (M : xM) (h : F_X2_commitPages fu s M = some rr) : xWx p l e R S0 m ag below meth c0 D cA A0 sA M0 ad0 5 Z 0 0 0 0 0 [(0, .inr (.inr (2, some s)))] [] M := by
  rw [← q_X2_commitPages fu s M] at h
  have hT : ∀ w ∈ xG, w ∈ (Cond.code yX2_commitPages cX2_commitPages 5 (some .int) :: xG) := fun w hw => List.mem_cons_of_mem _ hw
  refine xrun_sound (nst := 0) (isInit := false) (kd := kdX2) X (xcls_mono hT xclsG) (xpool_mono hT plX2) (fun z => by cases z) (fun idx v hf => xkoE_mono hT (koX2_ok _ (xfind_mem hf))) (xents (ca := _) ?_) (endI hE).1 (endI hE).2 (xcuts (cu := _) ?_) pr_X2_commitPages.1 pr_X2_commitPages.2 _ _ _ _ _ _ _ _ (xat_ok pr_X2_commitPages.1 pr_X2_commitPages.2).1 (xat_ok pr_X2_commitPages.1 pr_X2_commitPages.2).2.1 (xat_ok pr_X2_commitPages.1 pr_X2_commitPages.2).2.2 h
  · exact (List.forall_mem_cons.mpr ⟨(xent_met X (ci := 2) hT cd_X2_parts lk_X2_205 rfl (by decide) rfl (by decide +kernel) (fun z => absurd z (by decide)) (hw_X2_parts l D cA sA fu 0) (fun _ => ⟨by decide, fun _ => ⟨TX2, 16, rfl⟩⟩) (by constructor <;> omega) (by decide)), (fun _ h => nomatch h)⟩)
  · refine (List.forall_mem_cons.mpr ⟨?_, (fun _ h => nomatch h)⟩)
    · intro bc bs ls st M h
      replace h := xz_some h
      obtain ⟨rfl, rfl, h⟩ := h
      replace h := lR_some h
      obtain ⟨o, e0, h⟩ := h
      replace h := bd_some h
      obtain ⟨s', rfl, h⟩ := h
      replace h := lI_some h
      obtain ⟨x1', e1, h⟩ := h
      replace h := lI_some h
      obtain ⟨x2', e2, h⟩ := h
      replace h := lI_some h
      obtain ⟨x3', e3, h⟩ := h
      replace h := xe_some h
      obtain ⟨rfl, h⟩ := h
      exact xWx_ls (wx_X2_commitPages_29 X hi hroom hE fu fu s' x1' x2' x3' M h) (List.forall_mem_cons.mpr ⟨e0, (List.forall_mem_cons.mpr ⟨e1, (List.forall_mem_cons.mpr ⟨e2, (List.forall_mem_cons.mpr ⟨e3, (fun _ h => nomatch h)⟩)⟩)⟩)⟩)

theorem ok_X2_commitPages (l : Launch) (D : va_G) (cA : Nat → ClassId) (sA : Nat → Nat) (fu : Nat) (s : Nat) (M : xM) {rr : Int32 × xM} (h : F_X2_commitPages fu s M = some rr) : xMet l D cA sA yX2_commitPages cX2_commitPages 5 (some .int) xG (8 + 1) 0 0 [.inr (.inr (2, some s))] M (some (.inl rr.1)) rr.2 :=
  xmet_of (by decide +kernel) (Nat.le_of_ble_eq_true rfl) (fun p e s1 m ag below meth c0 A0 ad0 Z X hn hE => wx_X2_commitPages X hn ⟨Nat.le_refl _, Nat.le_refl _⟩ hE fu s M h)
theorem hw_X2_commitPages (l : Launch) (D : va_G) (cA : Nat → ClassId) (sA : Nat → Nat) (fu : Nat) {ρ : Type} {r0 : ρ} (kd1 : Nat) : ∀ (as : List xV) (M : xM) (k : Option xV → xM → Option ρ), w_X2_commitPages fu as M k = some r0 → ∃ v M', xMet l D cA sA yX2_commitPages cX2_commitPages 5 (some .int) xG (8 + 1) 0 0 as M v M' ∧ k v M' = some r0 ∧ (kd1 ≠ 2 → ∃ a as', as = .inr (.inr (2, some a)) :: as') := by
  intro as M k h
  unfold w_X2_commitPages at h
  replace h := pR_some h
  obtain ⟨o, as1, rfl, h⟩ := h
  replace h := bd_some h
  obtain ⟨s, rfl, h⟩ := h
  replace h := xe_some h
  obtain ⟨rfl, h⟩ := h
  obtain ⟨p1, hp, h⟩ := Option.bind_eq_some_iff.mp h
  exact ⟨_, _, ok_X2_commitPages l D cA sA fu s M hp, h, fun _ => ⟨_, _, rfl⟩⟩
theorem lk_X2_96 : xLink xG RX2 96 0 yX2_commitPages 0 := ⟨Or.inl (xg 1092 (by decide +kernel) (by decide +kernel)), (xg 1093 (by decide +kernel) (by decide +kernel)), (xg 1094 (by decide +kernel) (by decide +kernel)), (xg 134 (by decide +kernel) (by decide +kernel)), ⟨2, by decide, TX2, 16, rfl⟩⟩
theorem lk_X2_143 : xLink xG RX2 143 0 yX2_putNew 4 := ⟨Or.inl (xg 1088 (by decide +kernel) (by decide +kernel)), (xg 1090 (by decide +kernel) (by decide +kernel)), (xg 29 (by decide +kernel) (by decide +kernel)), (xg 134 (by decide +kernel) (by decide +kernel)), ⟨2, by decide, TX2, 16, rfl⟩⟩
theorem lk_X2_135 : xLink xG RX2 135 0 yX2_hasRoomToWrite 2 := ⟨Or.inl (xg 1073 (by decide +kernel) (by decide +kernel)), (xg 1074 (by decide +kernel) (by decide +kernel)), (xg 1075 (by decide +kernel) (by decide +kernel)), (xg 134 (by decide +kernel) (by decide +kernel)), ⟨2, by decide, TX2, 16, rfl⟩⟩
theorem lk_X2_100 : xLink xG RX2 100 0 yX2_collectBlock 0 := ⟨Or.inl (xg 1009 (by decide +kernel) (by decide +kernel)), (xg 1010 (by decide +kernel) (by decide +kernel)), (xg 1011 (by decide +kernel) (by decide +kernel)), (xg 134 (by decide +kernel) (by decide +kernel)), ⟨2, by decide, TX2, 16, rfl⟩⟩
theorem lk_X2_127 : xLink xG RX2 127 0 yX2_mayWrite 2 := ⟨Or.inl (xg 985 (by decide +kernel) (by decide +kernel)), (xg 986 (by decide +kernel) (by decide +kernel)), (xg 987 (by decide +kernel) (by decide +kernel)), (xg 134 (by decide +kernel) (by decide +kernel)), ⟨2, by decide, TX2, 16, rfl⟩⟩
theorem lk_X2_131 : xLink xG RX2 131 0 yX2_wantsCollect 0 := ⟨Or.inl (xg 998 (by decide +kernel) (by decide +kernel)), (xg 1000 (by decide +kernel) (by decide +kernel)), (xg 20 (by decide +kernel) (by decide +kernel)), (xg 134 (by decide +kernel) (by decide +kernel)), ⟨2, by decide, TX2, 16, rfl⟩⟩
theorem cd_X2_writePage : Cond.code yX2_writePage cX2_writePage 6 (some .int) ∈ xG := (xg 984 (by decide +kernel) (by decide +kernel))
theorem pr_X2_writePage : (∀ e ∈ pX2_writePage, xrow cX2_writePage 6 kdX2 flX2 0 false RX2 e) ∧ xnext pX2_writePage = true := xrows (by decide +kernel)
set_option maxRecDepth 100000 in
theorem wx_X2_writePage_75 (X : xCtx p R S0 m ag c0 D cA A0 sA 6 cX2_writePage RX2 (.code yX2_writePage cX2_writePage 6 (some .int) :: xG) 0 0) (hi : meth.name = yX2_writePage.name) (hroom : 9 + 2 ≤ R.frames ∧ 60 * (9 + 2) ≤ R.locals) {rr : Int32 × xM} (hE : xEnd l D cA sA cX2_writePage 6 (some .int) R 0 0 (some (.inl rr.1)) rr.2 p e S0 m ag below meth c0 A0 M0 ad0 Z) (fu : Nat) : ∀ (n : Nat) (s : Nat) (x1 : Int32) (x2 : Int32) (x3 : Int32) (x4 : Int32) (x5 : Int32) (M : xM), L_X2_writePage_75 fu n s x1 x2 x3 x4 x5 M = some rr → xWx p l e R S0 m ag below meth c0 D cA A0 sA M0 ad0 6 Z 0 0 75 0 0 [(0, .inr (.inr (2, some s))), (1, .inl x1), (2, .inl x2), (3, .inl x3), (4, .inl x4), (5, .inl x5)] [] M := by
  intro n
  induction n with
  | zero => intro s x1 x2 x3 x4 x5 M h; cases h
  | succ n ih =>
    intro s x1 x2 x3 x4 x5 M h
    rw [← q_X2_writePage_75 fu n s x1 x2 x3 x4 x5 M] at h
    have hT : ∀ w ∈ xG, w ∈ (Cond.code yX2_writePage cX2_writePage 6 (some .int) :: xG) := fun w hw => List.mem_cons_of_mem _ hw
    refine xrun_sound (nst := 0) (isInit := false) (kd := kdX2) X (xcls_mono hT xclsG) (xpool_mono hT plX2) (fun z => by cases z) (fun idx v hf => xkoE_mono hT (koX2_ok _ (xfind_mem hf))) (xents (ca := _) ?_) (endI hE).1 (endI hE).2 (xcuts (cu := _) ?_) pr_X2_writePage.1 pr_X2_writePage.2 _ _ _ _ _ _ _ _ (xat_ok pr_X2_writePage.1 pr_X2_writePage.2).1 (xat_ok pr_X2_writePage.1 pr_X2_writePage.2).2.1 (xat_ok pr_X2_writePage.1 pr_X2_writePage.2).2.2 h
    · exact (List.forall_mem_cons.mpr ⟨(xent_met X (ci := 2) hT cd_X2_commitPages lk_X2_96 rfl (by decide) rfl (by decide +kernel) (fun z => absurd z (by decide)) (hw_X2_commitPages l D cA sA fu 0) (fun _ => ⟨by decide, fun _ => ⟨TX2, 16, rfl⟩⟩) (by constructor <;> omega) (by decide)), (List.forall_mem_cons.mpr ⟨(xent_met X (ci := 2) hT cd_X2_putNew lk_X2_143 rfl (by decide) rfl (by decide +kernel) (fun z => absurd z (by decide)) (hw_X2_putNew l D cA sA fu 0) (fun _ => ⟨by decide, fun _ => ⟨TX2, 16, rfl⟩⟩) (by constructor <;> omega) (by decide)), (fun _ h => nomatch h)⟩)⟩)
    · refine (List.forall_mem_cons.mpr ⟨?_, (fun _ h => nomatch h)⟩)
      · intro bc bs ls st M h
        replace h := xz_some h
        obtain ⟨rfl, rfl, h⟩ := h
        replace h := lR_some h
        obtain ⟨o, e0, h⟩ := h
        replace h := bd_some h
        obtain ⟨s', rfl, h⟩ := h
        replace h := lI_some h
        obtain ⟨x1', e1, h⟩ := h
        replace h := lI_some h
        obtain ⟨x2', e2, h⟩ := h
        replace h := lI_some h
        obtain ⟨x3', e3, h⟩ := h
        replace h := lI_some h
        obtain ⟨x4', e4, h⟩ := h
        replace h := lI_some h
        obtain ⟨x5', e5, h⟩ := h
        replace h := xe_some h
        obtain ⟨rfl, h⟩ := h
        exact xWx_ls (ih s' x1' x2' x3' x4' x5' M h) (List.forall_mem_cons.mpr ⟨e0, (List.forall_mem_cons.mpr ⟨e1, (List.forall_mem_cons.mpr ⟨e2, (List.forall_mem_cons.mpr ⟨e3, (List.forall_mem_cons.mpr ⟨e4, (List.forall_mem_cons.mpr ⟨e5, (fun _ h => nomatch h)⟩)⟩)⟩)⟩)⟩)⟩)

set_option maxRecDepth 100000 in
theorem wx_X2_writePage_41 (X : xCtx p R S0 m ag c0 D cA A0 sA 6 cX2_writePage RX2 (.code yX2_writePage cX2_writePage 6 (some .int) :: xG) 0 0) (hi : meth.name = yX2_writePage.name) (hroom : 9 + 2 ≤ R.frames ∧ 60 * (9 + 2) ≤ R.locals) {rr : Int32 × xM} (hE : xEnd l D cA sA cX2_writePage 6 (some .int) R 0 0 (some (.inl rr.1)) rr.2 p e S0 m ag below meth c0 A0 M0 ad0 Z) (fu : Nat) (s : Nat) (x1 : Int32) (x2 : Int32) (x3 : Int32) (M : xM) (h : J_X2_writePage_41 fu s x1 x2 x3 M = some rr) : xWx p l e R S0 m ag below meth c0 D cA A0 sA M0 ad0 6 Z 0 0 41 0 0 [(0, .inr (.inr (2, some s))), (1, .inl x1), (2, .inl x2), (3, .inl x3)] [] M := by
  rw [← q_X2_writePage_41 fu s x1 x2 x3 M] at h
  have hT : ∀ w ∈ xG, w ∈ (Cond.code yX2_writePage cX2_writePage 6 (some .int) :: xG) := fun w hw => List.mem_cons_of_mem _ hw
  refine xrun_sound (nst := 0) (isInit := false) (kd := kdX2) X (xcls_mono hT xclsG) (xpool_mono hT plX2) (fun z => by cases z) (fun idx v hf => xkoE_mono hT (koX2_ok _ (xfind_mem hf))) (xents (ca := _) ?_) (endI hE).1 (endI hE).2 (xcuts (cu := _) ?_) pr_X2_writePage.1 pr_X2_writePage.2 _ _ _ _ _ _ _ _ (xat_ok pr_X2_writePage.1 pr_X2_writePage.2).1 (xat_ok pr_X2_writePage.1 pr_X2_writePage.2).2.1 (xat_ok pr_X2_writePage.1 pr_X2_writePage.2).2.2 h
  · exact (List.forall_mem_cons.mpr ⟨(xent_met X (ci := 2) hT cd_X2_hasRoomToWrite lk_X2_135 rfl (by decide) rfl (by decide +kernel) (fun z => absurd z (by decide)) (hw_X2_hasRoomToWrite l D cA sA fu 0) (fun _ => ⟨by decide, fun _ => ⟨TX2, 16, rfl⟩⟩) (by constructor <;> omega) (by decide)), (fun _ h => nomatch h)⟩)
  · refine (List.forall_mem_cons.mpr ⟨?_, (fun _ h => nomatch h)⟩)
    · intro bc bs ls st M h
      replace h := xz_some h
      obtain ⟨rfl, rfl, h⟩ := h
      replace h := lR_some h
      obtain ⟨o, e0, h⟩ := h
      replace h := bd_some h
      obtain ⟨s', rfl, h⟩ := h
      replace h := lI_some h
      obtain ⟨x1', e1, h⟩ := h
      replace h := lI_some h
      obtain ⟨x2', e2, h⟩ := h
      replace h := lI_some h
      obtain ⟨x3', e3, h⟩ := h
      replace h := lI_some h
      obtain ⟨x4', e4, h⟩ := h
      replace h := lI_some h
      obtain ⟨x5', e5, h⟩ := h
      replace h := xe_some h
      obtain ⟨rfl, h⟩ := h
      exact xWx_ls (wx_X2_writePage_75 X hi hroom hE fu fu s' x1' x2' x3' x4' x5' M h) (List.forall_mem_cons.mpr ⟨e0, (List.forall_mem_cons.mpr ⟨e1, (List.forall_mem_cons.mpr ⟨e2, (List.forall_mem_cons.mpr ⟨e3, (List.forall_mem_cons.mpr ⟨e4, (List.forall_mem_cons.mpr ⟨e5, (fun _ h => nomatch h)⟩)⟩)⟩)⟩)⟩)⟩)

set_option maxRecDepth 100000 in
theorem wx_X2_writePage (X : xCtx p R S0 m ag c0 D cA A0 sA 6 cX2_writePage RX2 (.code yX2_writePage cX2_writePage 6 (some .int) :: xG) 0 0) (hi : meth.name = yX2_writePage.name) (hroom : 9 + 2 ≤ R.frames ∧ 60 * (9 + 2) ≤ R.locals) {rr : Int32 × xM} (hE : xEnd l D cA sA cX2_writePage 6 (some .int) R 0 0 (some (.inl rr.1)) rr.2 p e S0 m ag below meth c0 A0 M0 ad0 Z) (fu : Nat) (s : Nat) (x1 : Int32) (x2 : Int32) (x3 : Int32) (M : xM) (h : F_X2_writePage fu s x1 x2 x3 M = some rr) : xWx p l e R S0 m ag below meth c0 D cA A0 sA M0 ad0 6 Z 0 0 0 0 0 [(0, .inr (.inr (2, some s))), (1, .inl x1), (2, .inl x2), (3, .inl x3)] [] M := by
  rw [← q_X2_writePage fu s x1 x2 x3 M] at h
  have hT : ∀ w ∈ xG, w ∈ (Cond.code yX2_writePage cX2_writePage 6 (some .int) :: xG) := fun w hw => List.mem_cons_of_mem _ hw
  refine xrun_sound (nst := 0) (isInit := false) (kd := kdX2) X (xcls_mono hT xclsG) (xpool_mono hT plX2) (fun z => by cases z) (fun idx v hf => xkoE_mono hT (koX2_ok _ (xfind_mem hf))) (xents (ca := _) ?_) (endI hE).1 (endI hE).2 (xcuts (cu := _) ?_) pr_X2_writePage.1 pr_X2_writePage.2 _ _ _ _ _ _ _ _ (xat_ok pr_X2_writePage.1 pr_X2_writePage.2).1 (xat_ok pr_X2_writePage.1 pr_X2_writePage.2).2.1 (xat_ok pr_X2_writePage.1 pr_X2_writePage.2).2.2 h
  · exact (List.forall_mem_cons.mpr ⟨(xent_met X (ci := 2) hT cd_X2_collectBlock lk_X2_100 rfl (by decide) rfl (by decide +kernel) (fun z => absurd z (by decide)) (hw_X2_collectBlock l D cA sA fu 0) (fun _ => ⟨by decide, fun _ => ⟨TX2, 16, rfl⟩⟩) (by constructor <;> omega) (by decide)), (List.forall_mem_cons.mpr ⟨(xent_met X (ci := 2) hT cd_X2_mayWrite lk_X2_127 rfl (by decide) rfl (by decide +kernel) (fun z => absurd z (by decide)) (hw_X2_mayWrite l D cA sA fu 0) (fun _ => ⟨by decide, fun _ => ⟨TX2, 16, rfl⟩⟩) (by constructor <;> omega) (by decide)), (List.forall_mem_cons.mpr ⟨(xent_met X (ci := 2) hT cd_X2_wantsCollect lk_X2_131 rfl (by decide) rfl (by decide +kernel) (fun z => absurd z (by decide)) (hw_X2_wantsCollect l D cA sA fu 0) (fun _ => ⟨by decide, fun _ => ⟨TX2, 16, rfl⟩⟩) (by constructor <;> omega) (by decide)), (fun _ h => nomatch h)⟩)⟩)⟩)
  · refine (List.forall_mem_cons.mpr ⟨?_, (fun _ h => nomatch h)⟩)
    · intro bc bs ls st M h
      replace h := xz_some h
      obtain ⟨rfl, rfl, h⟩ := h
      replace h := lR_some h
      obtain ⟨o, e0, h⟩ := h
      replace h := bd_some h
      obtain ⟨s', rfl, h⟩ := h
      replace h := lI_some h
      obtain ⟨x1', e1, h⟩ := h
      replace h := lI_some h
      obtain ⟨x2', e2, h⟩ := h
      replace h := lI_some h
      obtain ⟨x3', e3, h⟩ := h
      replace h := xe_some h
      obtain ⟨rfl, h⟩ := h
      exact xWx_ls (wx_X2_writePage_41 X hi hroom hE fu s' x1' x2' x3' M h) (List.forall_mem_cons.mpr ⟨e0, (List.forall_mem_cons.mpr ⟨e1, (List.forall_mem_cons.mpr ⟨e2, (List.forall_mem_cons.mpr ⟨e3, (fun _ h => nomatch h)⟩)⟩)⟩)⟩)

theorem ok_X2_writePage (l : Launch) (D : va_G) (cA : Nat → ClassId) (sA : Nat → Nat) (fu : Nat) (s : Nat) (x1 : Int32) (x2 : Int32) (x3 : Int32) (M : xM) {rr : Int32 × xM} (h : F_X2_writePage fu s x1 x2 x3 M = some rr) : xMet l D cA sA yX2_writePage cX2_writePage 6 (some .int) xG (9 + 1) 0 0 [.inr (.inr (2, some s)), .inl x1, .inl x2, .inl x3] M (some (.inl rr.1)) rr.2 :=
  xmet_of (by decide +kernel) (Nat.le_of_ble_eq_true rfl) (fun p e s1 m ag below meth c0 A0 ad0 Z X hn hE => wx_X2_writePage X hn ⟨Nat.le_refl _, Nat.le_refl _⟩ hE fu s x1 x2 x3 M h)
theorem hw_X2_writePage (l : Launch) (D : va_G) (cA : Nat → ClassId) (sA : Nat → Nat) (fu : Nat) {ρ : Type} {r0 : ρ} (kd1 : Nat) : ∀ (as : List xV) (M : xM) (k : Option xV → xM → Option ρ), w_X2_writePage fu as M k = some r0 → ∃ v M', xMet l D cA sA yX2_writePage cX2_writePage 6 (some .int) xG (9 + 1) 0 0 as M v M' ∧ k v M' = some r0 ∧ (kd1 ≠ 2 → ∃ a as', as = .inr (.inr (2, some a)) :: as') := by
  intro as M k h
  unfold w_X2_writePage at h
  replace h := pR_some h
  obtain ⟨o, as1, rfl, h⟩ := h
  replace h := bd_some h
  obtain ⟨s, rfl, h⟩ := h
  replace h := pI_some h
  obtain ⟨x1, as1, rfl, h⟩ := h
  replace h := pI_some h
  obtain ⟨x2, as1, rfl, h⟩ := h
  replace h := pI_some h
  obtain ⟨x3, as1, rfl, h⟩ := h
  replace h := xe_some h
  obtain ⟨rfl, h⟩ := h
  obtain ⟨p1, hp, h⟩ := Option.bind_eq_some_iff.mp h
  exact ⟨_, _, ok_X2_writePage l D cA sA fu s x1 x2 x3 M hp, h, fun _ => ⟨_, _, rfl⟩⟩
theorem cd_X2_mappedBits : Cond.code yX2_mappedBits cX2_mappedBits 4 (some .int) ∈ xG := (xg 968 (by decide +kernel) (by decide +kernel))
theorem pr_X2_mappedBits : (∀ e ∈ pX2_mappedBits, xrow cX2_mappedBits 4 kdX2 flX2 0 false RX2 e) ∧ xnext pX2_mappedBits = true := xrows (by decide +kernel)
set_option maxRecDepth 100000 in
theorem wx_X2_mappedBits_4 (X : xCtx p R S0 m ag c0 D cA A0 sA 4 cX2_mappedBits RX2 (.code yX2_mappedBits cX2_mappedBits 4 (some .int) :: xG) 0 0) (hi : meth.name = yX2_mappedBits.name) (hroom : 0 + 2 ≤ R.frames ∧ 60 * (0 + 2) ≤ R.locals) {rr : Int32 × xM} (hE : xEnd l D cA sA cX2_mappedBits 4 (some .int) R 0 0 (some (.inl rr.1)) rr.2 p e S0 m ag below meth c0 A0 M0 ad0 Z) (fu : Nat) : ∀ (n : Nat) (s : Nat) (x1 : Int32) (x2 : Int32) (x3 : Int32) (M : xM), L_X2_mappedBits_4 fu n s x1 x2 x3 M = some rr → xWx p l e R S0 m ag below meth c0 D cA A0 sA M0 ad0 4 Z 0 0 4 0 0 [(0, .inr (.inr (2, some s))), (1, .inl x1), (2, .inl x2), (3, .inl x3)] [] M := by
  intro n
  induction n with
  | zero => intro s x1 x2 x3 M h; cases h
  | succ n ih =>
    intro s x1 x2 x3 M h
    rw [← q_X2_mappedBits_4 fu n s x1 x2 x3 M] at h
    have hT : ∀ w ∈ xG, w ∈ (Cond.code yX2_mappedBits cX2_mappedBits 4 (some .int) :: xG) := fun w hw => List.mem_cons_of_mem _ hw
    refine xrun_sound (nst := 0) (isInit := false) (kd := kdX2) X (xcls_mono hT xclsG) (xpool_mono hT plX2) (fun z => by cases z) (fun idx v hf => xkoE_mono hT (koX2_ok _ (xfind_mem hf))) (xents (ca := _) ?_) (endI hE).1 (endI hE).2 (xcuts (cu := _) ?_) pr_X2_mappedBits.1 pr_X2_mappedBits.2 _ _ _ _ _ _ _ _ (xat_ok pr_X2_mappedBits.1 pr_X2_mappedBits.2).1 (xat_ok pr_X2_mappedBits.1 pr_X2_mappedBits.2).2.1 (xat_ok pr_X2_mappedBits.1 pr_X2_mappedBits.2).2.2 h
    · exact (fun _ h => nomatch h)
    · refine (List.forall_mem_cons.mpr ⟨?_, (fun _ h => nomatch h)⟩)
      · intro bc bs ls st M h
        replace h := xz_some h
        obtain ⟨rfl, rfl, h⟩ := h
        replace h := lR_some h
        obtain ⟨o, e0, h⟩ := h
        replace h := bd_some h
        obtain ⟨s', rfl, h⟩ := h
        replace h := lI_some h
        obtain ⟨x1', e1, h⟩ := h
        replace h := lI_some h
        obtain ⟨x2', e2, h⟩ := h
        replace h := lI_some h
        obtain ⟨x3', e3, h⟩ := h
        replace h := xe_some h
        obtain ⟨rfl, h⟩ := h
        exact xWx_ls (ih s' x1' x2' x3' M h) (List.forall_mem_cons.mpr ⟨e0, (List.forall_mem_cons.mpr ⟨e1, (List.forall_mem_cons.mpr ⟨e2, (List.forall_mem_cons.mpr ⟨e3, (fun _ h => nomatch h)⟩)⟩)⟩)⟩)

set_option maxRecDepth 100000 in
theorem wx_X2_mappedBits (X : xCtx p R S0 m ag c0 D cA A0 sA 4 cX2_mappedBits RX2 (.code yX2_mappedBits cX2_mappedBits 4 (some .int) :: xG) 0 0) (hi : meth.name = yX2_mappedBits.name) (hroom : 0 + 2 ≤ R.frames ∧ 60 * (0 + 2) ≤ R.locals) {rr : Int32 × xM} (hE : xEnd l D cA sA cX2_mappedBits 4 (some .int) R 0 0 (some (.inl rr.1)) rr.2 p e S0 m ag below meth c0 A0 M0 ad0 Z) (fu : Nat) (s : Nat) (x1 : Int32) (M : xM) (h : F_X2_mappedBits fu s x1 M = some rr) : xWx p l e R S0 m ag below meth c0 D cA A0 sA M0 ad0 4 Z 0 0 0 0 0 [(0, .inr (.inr (2, some s))), (1, .inl x1)] [] M := by
  rw [← q_X2_mappedBits fu s x1 M] at h
  have hT : ∀ w ∈ xG, w ∈ (Cond.code yX2_mappedBits cX2_mappedBits 4 (some .int) :: xG) := fun w hw => List.mem_cons_of_mem _ hw
  refine xrun_sound (nst := 0) (isInit := false) (kd := kdX2) X (xcls_mono hT xclsG) (xpool_mono hT plX2) (fun z => by cases z) (fun idx v hf => xkoE_mono hT (koX2_ok _ (xfind_mem hf))) (xents (ca := _) ?_) (endI hE).1 (endI hE).2 (xcuts (cu := _) ?_) pr_X2_mappedBits.1 pr_X2_mappedBits.2 _ _ _ _ _ _ _ _ (xat_ok pr_X2_mappedBits.1 pr_X2_mappedBits.2).1 (xat_ok pr_X2_mappedBits.1 pr_X2_mappedBits.2).2.1 (xat_ok pr_X2_mappedBits.1 pr_X2_mappedBits.2).2.2 h
  · exact (fun _ h => nomatch h)
  · refine (List.forall_mem_cons.mpr ⟨?_, (fun _ h => nomatch h)⟩)
    · intro bc bs ls st M h
      replace h := xz_some h
      obtain ⟨rfl, rfl, h⟩ := h
      replace h := lR_some h
      obtain ⟨o, e0, h⟩ := h
      replace h := bd_some h
      obtain ⟨s', rfl, h⟩ := h
      replace h := lI_some h
      obtain ⟨x1', e1, h⟩ := h
      replace h := lI_some h
      obtain ⟨x2', e2, h⟩ := h
      replace h := lI_some h
      obtain ⟨x3', e3, h⟩ := h
      replace h := xe_some h
      obtain ⟨rfl, h⟩ := h
      exact xWx_ls (wx_X2_mappedBits_4 X hi hroom hE fu fu s' x1' x2' x3' M h) (List.forall_mem_cons.mpr ⟨e0, (List.forall_mem_cons.mpr ⟨e1, (List.forall_mem_cons.mpr ⟨e2, (List.forall_mem_cons.mpr ⟨e3, (fun _ h => nomatch h)⟩)⟩)⟩)⟩)

theorem ok_X2_mappedBits (l : Launch) (D : va_G) (cA : Nat → ClassId) (sA : Nat → Nat) (fu : Nat) (s : Nat) (x1 : Int32) (M : xM) {rr : Int32 × xM} (h : F_X2_mappedBits fu s x1 M = some rr) : xMet l D cA sA yX2_mappedBits cX2_mappedBits 4 (some .int) xG (0 + 1) 0 0 [.inr (.inr (2, some s)), .inl x1] M (some (.inl rr.1)) rr.2 :=
  xmet_of (by decide +kernel) (Nat.le_of_ble_eq_true rfl) (fun p e s1 m ag below meth c0 A0 ad0 Z X hn hE => wx_X2_mappedBits X hn ⟨Nat.le_refl _, Nat.le_refl _⟩ hE fu s x1 M h)
theorem hw_X2_mappedBits (l : Launch) (D : va_G) (cA : Nat → ClassId) (sA : Nat → Nat) (fu : Nat) {ρ : Type} {r0 : ρ} (kd1 : Nat) : ∀ (as : List xV) (M : xM) (k : Option xV → xM → Option ρ), w_X2_mappedBits fu as M k = some r0 → ∃ v M', xMet l D cA sA yX2_mappedBits cX2_mappedBits 4 (some .int) xG (0 + 1) 0 0 as M v M' ∧ k v M' = some r0 ∧ (kd1 ≠ 2 → ∃ a as', as = .inr (.inr (2, some a)) :: as') := by
  intro as M k h
  unfold w_X2_mappedBits at h
  replace h := pR_some h
  obtain ⟨o, as1, rfl, h⟩ := h
  replace h := bd_some h
  obtain ⟨s, rfl, h⟩ := h
  replace h := pI_some h
  obtain ⟨x1, as1, rfl, h⟩ := h
  replace h := xe_some h
  obtain ⟨rfl, h⟩ := h
  obtain ⟨p1, hp, h⟩ := Option.bind_eq_some_iff.mp h
  exact ⟨_, _, ok_X2_mappedBits l D cA sA fu s x1 M hp, h, fun _ => ⟨_, _, rfl⟩⟩
theorem cd_X2_unmap : Cond.code yX2_unmap cX2_unmap 3 none ∈ xG := (xg 1123 (by decide +kernel) (by decide +kernel))
theorem pr_X2_unmap : (∀ e ∈ pX2_unmap, xrow cX2_unmap 3 kdX2 flX2 0 false RX2 e) ∧ xnext pX2_unmap = true := xrows (by decide +kernel)
set_option maxRecDepth 100000 in
theorem wx_X2_unmap_2 (X : xCtx p R S0 m ag c0 D cA A0 sA 3 cX2_unmap RX2 (.code yX2_unmap cX2_unmap 3 none :: xG) 0 0) (hi : meth.name = yX2_unmap.name) (hroom : 0 + 2 ≤ R.frames ∧ 60 * (0 + 2) ≤ R.locals) {rr : xM} (hE : xEnd l D cA sA cX2_unmap 3 none R 0 0 none rr p e S0 m ag below meth c0 A0 M0 ad0 Z) (fu : Nat) : ∀ (n : Nat) (s : Nat) (x1 : Int32) (x2 : Int32) (M : xM), L_X2_unmap_2 fu n s x1 x2 M = some rr → xWx p l e R S0 m ag below meth c0 D cA A0 sA M0 ad0 3 Z 0 0 2 0 0 [(0, .inr (.inr (2, some s))), (1, .inl x1), (2, .inl x2)] [] M := by
  intro n
  induction n with
  | zero => intro s x1 x2 M h; cases h
  | succ n ih =>
    intro s x1 x2 M h
    rw [← q_X2_unmap_2 fu n s x1 x2 M] at h
    have hT : ∀ w ∈ xG, w ∈ (Cond.code yX2_unmap cX2_unmap 3 none :: xG) := fun w hw => List.mem_cons_of_mem _ hw
    refine xrun_sound (nst := 0) (isInit := false) (kd := kdX2) X (xcls_mono hT xclsG) (xpool_mono hT plX2) (fun z => by cases z) (fun idx v hf => xkoE_mono hT (koX2_ok _ (xfind_mem hf))) (xents (ca := _) ?_) (endV hE).1 (endV hE).2 (xcuts (cu := _) ?_) pr_X2_unmap.1 pr_X2_unmap.2 _ _ _ _ _ _ _ _ (xat_ok pr_X2_unmap.1 pr_X2_unmap.2).1 (xat_ok pr_X2_unmap.1 pr_X2_unmap.2).2.1 (xat_ok pr_X2_unmap.1 pr_X2_unmap.2).2.2 h
    · exact (fun _ h => nomatch h)
    · refine (List.forall_mem_cons.mpr ⟨?_, (fun _ h => nomatch h)⟩)
      · intro bc bs ls st M h
        replace h := xz_some h
        obtain ⟨rfl, rfl, h⟩ := h
        replace h := lR_some h
        obtain ⟨o, e0, h⟩ := h
        replace h := bd_some h
        obtain ⟨s', rfl, h⟩ := h
        replace h := lI_some h
        obtain ⟨x1', e1, h⟩ := h
        replace h := lI_some h
        obtain ⟨x2', e2, h⟩ := h
        replace h := xe_some h
        obtain ⟨rfl, h⟩ := h
        exact xWx_ls (ih s' x1' x2' M h) (List.forall_mem_cons.mpr ⟨e0, (List.forall_mem_cons.mpr ⟨e1, (List.forall_mem_cons.mpr ⟨e2, (fun _ h => nomatch h)⟩)⟩)⟩)

set_option maxRecDepth 100000 in
theorem wx_X2_unmap (X : xCtx p R S0 m ag c0 D cA A0 sA 3 cX2_unmap RX2 (.code yX2_unmap cX2_unmap 3 none :: xG) 0 0) (hi : meth.name = yX2_unmap.name) (hroom : 0 + 2 ≤ R.frames ∧ 60 * (0 + 2) ≤ R.locals) {rr : xM} (hE : xEnd l D cA sA cX2_unmap 3 none R 0 0 none rr p e S0 m ag below meth c0 A0 M0 ad0 Z) (fu : Nat) (s : Nat) (x1 : Int32) (M : xM) (h : F_X2_unmap fu s x1 M = some rr) : xWx p l e R S0 m ag below meth c0 D cA A0 sA M0 ad0 3 Z 0 0 0 0 0 [(0, .inr (.inr (2, some s))), (1, .inl x1)] [] M := by
  rw [← q_X2_unmap fu s x1 M] at h
  have hT : ∀ w ∈ xG, w ∈ (Cond.code yX2_unmap cX2_unmap 3 none :: xG) := fun w hw => List.mem_cons_of_mem _ hw
  refine xrun_sound (nst := 0) (isInit := false) (kd := kdX2) X (xcls_mono hT xclsG) (xpool_mono hT plX2) (fun z => by cases z) (fun idx v hf => xkoE_mono hT (koX2_ok _ (xfind_mem hf))) (xents (ca := _) ?_) (endV hE).1 (endV hE).2 (xcuts (cu := _) ?_) pr_X2_unmap.1 pr_X2_unmap.2 _ _ _ _ _ _ _ _ (xat_ok pr_X2_unmap.1 pr_X2_unmap.2).1 (xat_ok pr_X2_unmap.1 pr_X2_unmap.2).2.1 (xat_ok pr_X2_unmap.1 pr_X2_unmap.2).2.2 h
  · exact (fun _ h => nomatch h)
  · refine (List.forall_mem_cons.mpr ⟨?_, (fun _ h => nomatch h)⟩)
    · intro bc bs ls st M h
      replace h := xz_some h
      obtain ⟨rfl, rfl, h⟩ := h
      replace h := lR_some h
      obtain ⟨o, e0, h⟩ := h
      replace h := bd_some h
      obtain ⟨s', rfl, h⟩ := h
      replace h := lI_some h
      obtain ⟨x1', e1, h⟩ := h
      replace h := lI_some h
      obtain ⟨x2', e2, h⟩ := h
      replace h := xe_some h
      obtain ⟨rfl, h⟩ := h
      exact xWx_ls (wx_X2_unmap_2 X hi hroom hE fu fu s' x1' x2' M h) (List.forall_mem_cons.mpr ⟨e0, (List.forall_mem_cons.mpr ⟨e1, (List.forall_mem_cons.mpr ⟨e2, (fun _ h => nomatch h)⟩)⟩)⟩)

theorem ok_X2_unmap (l : Launch) (D : va_G) (cA : Nat → ClassId) (sA : Nat → Nat) (fu : Nat) (s : Nat) (x1 : Int32) (M : xM) {rr : xM} (h : F_X2_unmap fu s x1 M = some rr) : xMet l D cA sA yX2_unmap cX2_unmap 3 none xG (0 + 1) 0 0 [.inr (.inr (2, some s)), .inl x1] M none rr :=
  xmet_of (by decide +kernel) (Nat.le_of_ble_eq_true rfl) (fun p e s1 m ag below meth c0 A0 ad0 Z X hn hE => wx_X2_unmap X hn ⟨Nat.le_refl _, Nat.le_refl _⟩ hE fu s x1 M h)
theorem hw_X2_unmap (l : Launch) (D : va_G) (cA : Nat → ClassId) (sA : Nat → Nat) (fu : Nat) {ρ : Type} {r0 : ρ} (kd1 : Nat) : ∀ (as : List xV) (M : xM) (k : Option xV → xM → Option ρ), w_X2_unmap fu as M k = some r0 → ∃ v M', xMet l D cA sA yX2_unmap cX2_unmap 3 none xG (0 + 1) 0 0 as M v M' ∧ k v M' = some r0 ∧ (kd1 ≠ 2 → ∃ a as', as = .inr (.inr (2, some a)) :: as') := by
  intro as M k h
  unfold w_X2_unmap at h
  replace h := pR_some h
  obtain ⟨o, as1, rfl, h⟩ := h
  replace h := bd_some h
  obtain ⟨s, rfl, h⟩ := h
  replace h := pI_some h
  obtain ⟨x1, as1, rfl, h⟩ := h
  replace h := xe_some h
  obtain ⟨rfl, h⟩ := h
  obtain ⟨p1, hp, h⟩ := Option.bind_eq_some_iff.mp h
  exact ⟨_, _, ok_X2_unmap l D cA sA fu s x1 M hp, h, fun _ => ⟨_, _, rfl⟩⟩
theorem lk_X2_193 : xLink xG RX2 193 0 yX2_mappedBits 1 := ⟨Or.inl (xg 1113 (by decide +kernel) (by decide +kernel)), (xg 966 (by decide +kernel) (by decide +kernel)), (xg 967 (by decide +kernel) (by decide +kernel)), (xg 134 (by decide +kernel) (by decide +kernel)), ⟨2, by decide, TX2, 16, rfl⟩⟩
theorem lk_X2_196 : xLink xG RX2 196 2 yJ6_bitCount_0f7a4 1 := ⟨(xg 1114 (by decide +kernel) (by decide +kernel)), (xg 1115 (by decide +kernel) (by decide +kernel)), (xg 148 (by decide +kernel) (by decide +kernel))⟩
theorem lk_X2_201 : xLink xG RX2 201 0 yX2_unmap 1 := ⟨Or.inl (xg 1120 (by decide +kernel) (by decide +kernel)), (xg 1122 (by decide +kernel) (by decide +kernel)), (xg 31 (by decide +kernel) (by decide +kernel)), (xg 134 (by decide +kernel) (by decide +kernel)), ⟨2, by decide, TX2, 16, rfl⟩⟩
theorem lk_X2_190 : xLink xG RX2 190 0 yX7_isFile 1 := ⟨Or.inl (xg 1112 (by decide +kernel) (by decide +kernel)), (xg 962 (by decide +kernel) (by decide +kernel)), (xg 963 (by decide +kernel) (by decide +kernel)), (xg 130 (by decide +kernel) (by decide +kernel)), ⟨7, by decide, TX7, 9, rfl⟩⟩
theorem cd_X2_removeFile : Cond.code yX2_removeFile cX2_removeFile 3 (some .int) ∈ xG := (xg 1111 (by decide +kernel) (by decide +kernel))
theorem pr_X2_removeFile : (∀ e ∈ pX2_removeFile, xrow cX2_removeFile 3 kdX2 flX2 0 false RX2 e) ∧ xnext pX2_removeFile = true := xrows (by decide +kernel)
set_option maxRecDepth 100000 in
theorem wx_X2_removeFile_56 (X : xCtx p R S0 m ag c0 D cA A0 sA 3 cX2_removeFile RX2 (.code yX2_removeFile cX2_removeFile 3 (some .int) :: xG) 0 0) (hi : meth.name = yX2_removeFile.name) (hroom : 9 + 2 ≤ R.frames ∧ 60 * (9 + 2) ≤ R.locals) {rr : Int32 × xM} (hE : xEnd l D cA sA cX2_removeFile 3 (some .int) R 0 0 (some (.inl rr.1)) rr.2 p e S0 m ag below meth c0 A0 M0 ad0 Z) (fu : Nat) (s : Nat) (x1 : Int32) (M : xM) (h : J_X2_removeFile_56 fu s x1 M = some rr) : xWx p l e R S0 m ag below meth c0 D cA A0 sA M0 ad0 3 Z 0 0 56 0 0 [(0, .inr (.inr (2, some s))), (1, .inl x1)] [] M := by
  rw [← q_X2_removeFile_56 fu s x1 M] at h
  have hT : ∀ w ∈ xG, w ∈ (Cond.code yX2_removeFile cX2_removeFile 3 (some .int) :: xG) := fun w hw => List.mem_cons_of_mem _ hw
  refine xrun_sound (nst := 0) (isInit := false) (kd := kdX2) X (xcls_mono hT xclsG) (xpool_mono hT plX2) (fun z => by cases z) (fun idx v hf => xkoE_mono hT (koX2_ok _ (xfind_mem hf))) (xents (ca := _) ?_) (endI hE).1 (endI hE).2 (xcuts (cu := _) ?_) pr_X2_removeFile.1 pr_X2_removeFile.2 _ _ _ _ _ _ _ _ (xat_ok pr_X2_removeFile.1 pr_X2_removeFile.2).1 (xat_ok pr_X2_removeFile.1 pr_X2_removeFile.2).2.1 (xat_ok pr_X2_removeFile.1 pr_X2_removeFile.2).2.2 h
  · exact (List.forall_mem_cons.mpr ⟨(xent_met X (ci := 2) hT cd_X2_putNew lk_X2_143 rfl (by decide) rfl (by decide +kernel) (fun z => absurd z (by decide)) (hw_X2_putNew l D cA sA fu 0) (fun _ => ⟨by decide, fun _ => ⟨TX2, 16, rfl⟩⟩) (by constructor <;> omega) (by decide)), (List.forall_mem_cons.mpr ⟨(xent_met X (ci := 2) hT cd_X2_keptPages lk_X2_153 rfl (by decide) rfl (by decide +kernel) (fun z => absurd z (by decide)) (hw_X2_keptPages l D cA sA fu 0) (fun _ => ⟨by decide, fun _ => ⟨TX2, 16, rfl⟩⟩) (by constructor <;> omega) (by decide)), (List.forall_mem_cons.mpr ⟨(xent_met X (ci := 2) hT cd_X2_partsOf lk_X2_156 rfl (by decide) rfl (by decide +kernel) (fun z => absurd z (by decide)) (hw_X2_partsOf l D cA sA fu 2 rfl) (fun z => absurd rfl z) (by constructor <;> omega) (by decide)), (List.forall_mem_cons.mpr ⟨(xent_met X (ci := 2) hT cd_X2_mappedBits lk_X2_193 rfl (by decide) rfl (by decide +kernel) (fun z => absurd z (by decide)) (hw_X2_mappedBits l D cA sA fu 0) (fun _ => ⟨by decide, fun _ => ⟨TX2, 16, rfl⟩⟩) (by constructor <;> omega) (by decide)), (List.forall_mem_cons.mpr ⟨(xent_met X (ci := 0) hT cd_J6_bitCount_0f7a4 lk_X2_196 rfl (by decide) rfl (by decide +kernel) (fun z => absurd z (by decide)) (hw_J6_bitCount_0f7a4 l D cA sA fu 2 rfl) (fun z => absurd rfl z) (by constructor <;> omega) (by decide)), (List.forall_mem_cons.mpr ⟨(xent_met X (ci := 2) hT cd_X2_unmap lk_X2_201 rfl (by decide) rfl (by decide +kernel) (fun z => absurd z (by decide)) (hw_X2_unmap l D cA sA fu 0) (fun _ => ⟨by decide, fun _ => ⟨TX2, 16, rfl⟩⟩) (by constructor <;> omega) (by decide)), (fun _ h => nomatch h)⟩)⟩)⟩)⟩)⟩)⟩)
  · exact (fun _ h => nomatch h)

set_option maxRecDepth 100000 in
theorem wx_X2_removeFile (X : xCtx p R S0 m ag c0 D cA A0 sA 3 cX2_removeFile RX2 (.code yX2_removeFile cX2_removeFile 3 (some .int) :: xG) 0 0) (hi : meth.name = yX2_removeFile.name) (hroom : 9 + 2 ≤ R.frames ∧ 60 * (9 + 2) ≤ R.locals) {rr : Int32 × xM} (hE : xEnd l D cA sA cX2_removeFile 3 (some .int) R 0 0 (some (.inl rr.1)) rr.2 p e S0 m ag below meth c0 A0 M0 ad0 Z) (fu : Nat) (s : Nat) (x1 : Int32) (M : xM) (h : F_X2_removeFile fu s x1 M = some rr) : xWx p l e R S0 m ag below meth c0 D cA A0 sA M0 ad0 3 Z 0 0 0 0 0 [(0, .inr (.inr (2, some s))), (1, .inl x1)] [] M := by
  rw [← q_X2_removeFile fu s x1 M] at h
  have hT : ∀ w ∈ xG, w ∈ (Cond.code yX2_removeFile cX2_removeFile 3 (some .int) :: xG) := fun w hw => List.mem_cons_of_mem _ hw
  refine xrun_sound (nst := 0) (isInit := false) (kd := kdX2) X (xcls_mono hT xclsG) (xpool_mono hT plX2) (fun z => by cases z) (fun idx v hf => xkoE_mono hT (koX2_ok _ (xfind_mem hf))) (xents (ca := _) ?_) (endI hE).1 (endI hE).2 (xcuts (cu := _) ?_) pr_X2_removeFile.1 pr_X2_removeFile.2 _ _ _ _ _ _ _ _ (xat_ok pr_X2_removeFile.1 pr_X2_removeFile.2).1 (xat_ok pr_X2_removeFile.1 pr_X2_removeFile.2).2.1 (xat_ok pr_X2_removeFile.1 pr_X2_removeFile.2).2.2 h
  · exact (List.forall_mem_cons.mpr ⟨(xent_met X (ci := 2) hT cd_X2_collectBlock lk_X2_100 rfl (by decide) rfl (by decide +kernel) (fun z => absurd z (by decide)) (hw_X2_collectBlock l D cA sA fu 0) (fun _ => ⟨by decide, fun _ => ⟨TX2, 16, rfl⟩⟩) (by constructor <;> omega) (by decide)), (List.forall_mem_cons.mpr ⟨(xent_met X (ci := 2) hT cd_X2_wantsCollect lk_X2_131 rfl (by decide) rfl (by decide +kernel) (fun z => absurd z (by decide)) (hw_X2_wantsCollect l D cA sA fu 0) (fun _ => ⟨by decide, fun _ => ⟨TX2, 16, rfl⟩⟩) (by constructor <;> omega) (by decide)), (List.forall_mem_cons.mpr ⟨(xent_met X (ci := 7) hT cd_X7_isFile lk_X2_190 rfl (by decide) rfl (by decide +kernel) (fun z => absurd z (by decide)) (hw_X7_isFile l D cA sA fu 0) (fun _ => ⟨by decide, fun _ => ⟨TX7, 9, rfl⟩⟩) (by constructor <;> omega) (by decide)), (List.forall_mem_cons.mpr ⟨(xent_met X (ci := 2) hT cd_X2_mappedBits lk_X2_193 rfl (by decide) rfl (by decide +kernel) (fun z => absurd z (by decide)) (hw_X2_mappedBits l D cA sA fu 0) (fun _ => ⟨by decide, fun _ => ⟨TX2, 16, rfl⟩⟩) (by constructor <;> omega) (by decide)), (fun _ h => nomatch h)⟩)⟩)⟩)⟩)
  · refine (List.forall_mem_cons.mpr ⟨?_, (fun _ h => nomatch h)⟩)
    · intro bc bs ls st M h
      replace h := xz_some h
      obtain ⟨rfl, rfl, h⟩ := h
      replace h := lR_some h
      obtain ⟨o, e0, h⟩ := h
      replace h := bd_some h
      obtain ⟨s', rfl, h⟩ := h
      replace h := lI_some h
      obtain ⟨x1', e1, h⟩ := h
      replace h := xe_some h
      obtain ⟨rfl, h⟩ := h
      exact xWx_ls (wx_X2_removeFile_56 X hi hroom hE fu s' x1' M h) (List.forall_mem_cons.mpr ⟨e0, (List.forall_mem_cons.mpr ⟨e1, (fun _ h => nomatch h)⟩)⟩)

theorem ok_X2_removeFile (l : Launch) (D : va_G) (cA : Nat → ClassId) (sA : Nat → Nat) (fu : Nat) (s : Nat) (x1 : Int32) (M : xM) {rr : Int32 × xM} (h : F_X2_removeFile fu s x1 M = some rr) : xMet l D cA sA yX2_removeFile cX2_removeFile 3 (some .int) xG (9 + 1) 0 0 [.inr (.inr (2, some s)), .inl x1] M (some (.inl rr.1)) rr.2 :=
  xmet_of (by decide +kernel) (Nat.le_of_ble_eq_true rfl) (fun p e s1 m ag below meth c0 A0 ad0 Z X hn hE => wx_X2_removeFile X hn ⟨Nat.le_refl _, Nat.le_refl _⟩ hE fu s x1 M h)
theorem hw_X2_removeFile (l : Launch) (D : va_G) (cA : Nat → ClassId) (sA : Nat → Nat) (fu : Nat) {ρ : Type} {r0 : ρ} (kd1 : Nat) : ∀ (as : List xV) (M : xM) (k : Option xV → xM → Option ρ), w_X2_removeFile fu as M k = some r0 → ∃ v M', xMet l D cA sA yX2_removeFile cX2_removeFile 3 (some .int) xG (9 + 1) 0 0 as M v M' ∧ k v M' = some r0 ∧ (kd1 ≠ 2 → ∃ a as', as = .inr (.inr (2, some a)) :: as') := by
  intro as M k h
  unfold w_X2_removeFile at h
  replace h := pR_some h
  obtain ⟨o, as1, rfl, h⟩ := h
  replace h := bd_some h
  obtain ⟨s, rfl, h⟩ := h
  replace h := pI_some h
  obtain ⟨x1, as1, rfl, h⟩ := h
  replace h := xe_some h
  obtain ⟨rfl, h⟩ := h
  obtain ⟨p1, hp, h⟩ := Option.bind_eq_some_iff.mp h
  exact ⟨_, _, ok_X2_removeFile l D cA sA fu s x1 M hp, h, fun _ => ⟨_, _, rfl⟩⟩
theorem cd_X2_openFile : Cond.code yX2_openFile cX2_openFile 2 (some .boolean) ∈ xG := (xg 1131 (by decide +kernel) (by decide +kernel))
theorem pr_X2_openFile : (∀ e ∈ pX2_openFile, xrow cX2_openFile 2 kdX2 flX2 0 false RX2 e) ∧ xnext pX2_openFile = true := xrows (by decide +kernel)
set_option maxRecDepth 100000 in
theorem wx_X2_openFile (X : xCtx p R S0 m ag c0 D cA A0 sA 2 cX2_openFile RX2 (.code yX2_openFile cX2_openFile 2 (some .boolean) :: xG) 0 0) (hi : meth.name = yX2_openFile.name) (hroom : 1 + 2 ≤ R.frames ∧ 60 * (1 + 2) ≤ R.locals) {rr : Int32 × xM} (hE : xEnd l D cA sA cX2_openFile 2 (some .boolean) R 0 0 (some (.inl rr.1)) rr.2 p e S0 m ag below meth c0 A0 M0 ad0 Z) (fu : Nat) (s : Nat) (x1 : Int32) (M : xM) (h : F_X2_openFile fu s x1 M = some rr) : xWx p l e R S0 m ag below meth c0 D cA A0 sA M0 ad0 2 Z 0 0 0 0 0 [(0, .inr (.inr (2, some s))), (1, .inl x1)] [] M := by
  rw [← q_X2_openFile fu s x1 M] at h
  have hT : ∀ w ∈ xG, w ∈ (Cond.code yX2_openFile cX2_openFile 2 (some .boolean) :: xG) := fun w hw => List.mem_cons_of_mem _ hw
  refine xrun_sound (nst := 0) (isInit := false) (kd := kdX2) X (xcls_mono hT xclsG) (xpool_mono hT plX2) (fun z => by cases z) (fun idx v hf => xkoE_mono hT (koX2_ok _ (xfind_mem hf))) (xents (ca := _) ?_) (endZ hE).1 (endZ hE).2 (xcuts (cu := _) ?_) pr_X2_openFile.1 pr_X2_openFile.2 _ _ _ _ _ _ _ _ (xat_ok pr_X2_openFile.1 pr_X2_openFile.2).1 (xat_ok pr_X2_openFile.1 pr_X2_openFile.2).2.1 (xat_ok pr_X2_openFile.1 pr_X2_openFile.2).2.2 h
  · exact (List.forall_mem_cons.mpr ⟨(xent_met X (ci := 7) hT cd_X7_isFile lk_X2_190 rfl (by decide) rfl (by decide +kernel) (fun z => absurd z (by decide)) (hw_X7_isFile l D cA sA fu 0) (fun _ => ⟨by decide, fun _ => ⟨TX7, 9, rfl⟩⟩) (by constructor <;> omega) (by decide)), (fun _ h => nomatch h)⟩)
  · exact (fun _ h => nomatch h)

theorem ok_X2_openFile (l : Launch) (D : va_G) (cA : Nat → ClassId) (sA : Nat → Nat) (fu : Nat) (s : Nat) (x1 : Int32) (M : xM) {rr : Int32 × xM} (h : F_X2_openFile fu s x1 M = some rr) : xMet l D cA sA yX2_openFile cX2_openFile 2 (some .boolean) xG (1 + 1) 0 0 [.inr (.inr (2, some s)), .inl x1] M (some (.inl rr.1)) rr.2 :=
  xmet_of (by decide +kernel) (Nat.le_of_ble_eq_true rfl) (fun p e s1 m ag below meth c0 A0 ad0 Z X hn hE => wx_X2_openFile X hn ⟨Nat.le_refl _, Nat.le_refl _⟩ hE fu s x1 M h)
theorem hw_X2_openFile (l : Launch) (D : va_G) (cA : Nat → ClassId) (sA : Nat → Nat) (fu : Nat) {ρ : Type} {r0 : ρ} (kd1 : Nat) : ∀ (as : List xV) (M : xM) (k : Option xV → xM → Option ρ), w_X2_openFile fu as M k = some r0 → ∃ v M', xMet l D cA sA yX2_openFile cX2_openFile 2 (some .boolean) xG (1 + 1) 0 0 as M v M' ∧ k v M' = some r0 ∧ (kd1 ≠ 2 → ∃ a as', as = .inr (.inr (2, some a)) :: as') := by
  intro as M k h
  unfold w_X2_openFile at h
  replace h := pR_some h
  obtain ⟨o, as1, rfl, h⟩ := h
  replace h := bd_some h
  obtain ⟨s, rfl, h⟩ := h
  replace h := pI_some h
  obtain ⟨x1, as1, rfl, h⟩ := h
  replace h := xe_some h
  obtain ⟨rfl, h⟩ := h
  obtain ⟨p1, hp, h⟩ := Option.bind_eq_some_iff.mp h
  exact ⟨_, _, ok_X2_openFile l D cA sA fu s x1 M hp, h, fun _ => ⟨_, _, rfl⟩⟩
theorem cd_X2_closeFile : Cond.code yX2_closeFile cX2_closeFile 2 (some .boolean) ∈ xG := (xg 1139 (by decide +kernel) (by decide +kernel))
theorem pr_X2_closeFile : (∀ e ∈ pX2_closeFile, xrow cX2_closeFile 2 kdX2 flX2 0 false RX2 e) ∧ xnext pX2_closeFile = true := xrows (by decide +kernel)
set_option maxRecDepth 100000 in
theorem wx_X2_closeFile (X : xCtx p R S0 m ag c0 D cA A0 sA 2 cX2_closeFile RX2 (.code yX2_closeFile cX2_closeFile 2 (some .boolean) :: xG) 0 0) (hi : meth.name = yX2_closeFile.name) (hroom : 1 + 2 ≤ R.frames ∧ 60 * (1 + 2) ≤ R.locals) {rr : Int32 × xM} (hE : xEnd l D cA sA cX2_closeFile 2 (some .boolean) R 0 0 (some (.inl rr.1)) rr.2 p e S0 m ag below meth c0 A0 M0 ad0 Z) (fu : Nat) (s : Nat) (x1 : Int32) (M : xM) (h : F_X2_closeFile fu s x1 M = some rr) : xWx p l e R S0 m ag below meth c0 D cA A0 sA M0 ad0 2 Z 0 0 0 0 0 [(0, .inr (.inr (2, some s))), (1, .inl x1)] [] M := by
  rw [← q_X2_closeFile fu s x1 M] at h
  have hT : ∀ w ∈ xG, w ∈ (Cond.code yX2_closeFile cX2_closeFile 2 (some .boolean) :: xG) := fun w hw => List.mem_cons_of_mem _ hw
  refine xrun_sound (nst := 0) (isInit := false) (kd := kdX2) X (xcls_mono hT xclsG) (xpool_mono hT plX2) (fun z => by cases z) (fun idx v hf => xkoE_mono hT (koX2_ok _ (xfind_mem hf))) (xents (ca := _) ?_) (endZ hE).1 (endZ hE).2 (xcuts (cu := _) ?_) pr_X2_closeFile.1 pr_X2_closeFile.2 _ _ _ _ _ _ _ _ (xat_ok pr_X2_closeFile.1 pr_X2_closeFile.2).1 (xat_ok pr_X2_closeFile.1 pr_X2_closeFile.2).2.1 (xat_ok pr_X2_closeFile.1 pr_X2_closeFile.2).2.2 h
  · exact (List.forall_mem_cons.mpr ⟨(xent_met X (ci := 7) hT cd_X7_isFile lk_X2_190 rfl (by decide) rfl (by decide +kernel) (fun z => absurd z (by decide)) (hw_X7_isFile l D cA sA fu 0) (fun _ => ⟨by decide, fun _ => ⟨TX7, 9, rfl⟩⟩) (by constructor <;> omega) (by decide)), (List.forall_mem_cons.mpr ⟨(xent_met X (ci := 2) hT cd_X2_unmap lk_X2_201 rfl (by decide) rfl (by decide +kernel) (fun z => absurd z (by decide)) (hw_X2_unmap l D cA sA fu 0) (fun _ => ⟨by decide, fun _ => ⟨TX2, 16, rfl⟩⟩) (by constructor <;> omega) (by decide)), (fun _ h => nomatch h)⟩)⟩)
  · exact (fun _ h => nomatch h)

theorem ok_X2_closeFile (l : Launch) (D : va_G) (cA : Nat → ClassId) (sA : Nat → Nat) (fu : Nat) (s : Nat) (x1 : Int32) (M : xM) {rr : Int32 × xM} (h : F_X2_closeFile fu s x1 M = some rr) : xMet l D cA sA yX2_closeFile cX2_closeFile 2 (some .boolean) xG (1 + 1) 0 0 [.inr (.inr (2, some s)), .inl x1] M (some (.inl rr.1)) rr.2 :=
  xmet_of (by decide +kernel) (Nat.le_of_ble_eq_true rfl) (fun p e s1 m ag below meth c0 A0 ad0 Z X hn hE => wx_X2_closeFile X hn ⟨Nat.le_refl _, Nat.le_refl _⟩ hE fu s x1 M h)
theorem hw_X2_closeFile (l : Launch) (D : va_G) (cA : Nat → ClassId) (sA : Nat → Nat) (fu : Nat) {ρ : Type} {r0 : ρ} (kd1 : Nat) : ∀ (as : List xV) (M : xM) (k : Option xV → xM → Option ρ), w_X2_closeFile fu as M k = some r0 → ∃ v M', xMet l D cA sA yX2_closeFile cX2_closeFile 2 (some .boolean) xG (1 + 1) 0 0 as M v M' ∧ k v M' = some r0 ∧ (kd1 ≠ 2 → ∃ a as', as = .inr (.inr (2, some a)) :: as') := by
  intro as M k h
  unfold w_X2_closeFile at h
  replace h := pR_some h
  obtain ⟨o, as1, rfl, h⟩ := h
  replace h := bd_some h
  obtain ⟨s, rfl, h⟩ := h
  replace h := pI_some h
  obtain ⟨x1, as1, rfl, h⟩ := h
  replace h := xe_some h
  obtain ⟨rfl, h⟩ := h
  obtain ⟨p1, hp, h⟩ := Option.bind_eq_some_iff.mp h
  exact ⟨_, _, ok_X2_closeFile l D cA sA fu s x1 M hp, h, fun _ => ⟨_, _, rfl⟩⟩
theorem lk_X2_81 : xLink xG RX2 81 0 yX2_writePage 3 := ⟨Or.inl (xg 1194 (by decide +kernel) (by decide +kernel)), (xg 982 (by decide +kernel) (by decide +kernel)), (xg 983 (by decide +kernel) (by decide +kernel)), (xg 134 (by decide +kernel) (by decide +kernel)), ⟨2, by decide, TX2, 16, rfl⟩⟩
theorem lk_X2_85 : xLink xG RX2 85 0 yX2_removeFile 1 := ⟨Or.inl (xg 1195 (by decide +kernel) (by decide +kernel)), (xg 1109 (by decide +kernel) (by decide +kernel)), (xg 1110 (by decide +kernel) (by decide +kernel)), (xg 134 (by decide +kernel) (by decide +kernel)), ⟨2, by decide, TX2, 16, rfl⟩⟩
theorem lk_X2_89 : xLink xG RX2 89 0 yX2_openFile 1 := ⟨Or.inl (xg 1196 (by decide +kernel) (by decide +kernel)), (xg 1129 (by decide +kernel) (by decide +kernel)), (xg 1130 (by decide +kernel) (by decide +kernel)), (xg 134 (by decide +kernel) (by decide +kernel)), ⟨2, by decide, TX2, 16, rfl⟩⟩
theorem lk_X2_93 : xLink xG RX2 93 0 yX2_closeFile 1 := ⟨Or.inl (xg 1197 (by decide +kernel) (by decide +kernel)), (xg 1137 (by decide +kernel) (by decide +kernel)), (xg 1138 (by decide +kernel) (by decide +kernel)), (xg 134 (by decide +kernel) (by decide +kernel)), ⟨2, by decide, TX2, 16, rfl⟩⟩
theorem cd_X2_act : Cond.code yX2_act cX2_act 5 (some .boolean) ∈ xG := (xg 1193 (by decide +kernel) (by decide +kernel))
theorem pr_X2_act : (∀ e ∈ pX2_act, xrow cX2_act 5 kdX2 flX2 0 false RX2 e) ∧ xnext pX2_act = true := xrows (by decide +kernel)
set_option maxRecDepth 100000 in
theorem wx_X2_act (X : xCtx p R S0 m ag c0 D cA A0 sA 5 cX2_act RX2 (.code yX2_act cX2_act 5 (some .boolean) :: xG) 0 0) (hi : meth.name = yX2_act.name) (hroom : 10 + 2 ≤ R.frames ∧ 60 * (10 + 2) ≤ R.locals) {rr : Int32 × xM} (hE : xEnd l D cA sA cX2_act 5 (some .boolean) R 0 0 (some (.inl rr.1)) rr.2 p e S0 m ag below meth c0 A0 M0 ad0 Z) (fu : Nat) (s : Nat) (x1 : Int32) (x2 : Int32) (x3 : Int32) (x4 : Int32) (M : xM) (h : F_X2_act fu s x1 x2 x3 x4 M = some rr) : xWx p l e R S0 m ag below meth c0 D cA A0 sA M0 ad0 5 Z 0 0 0 0 0 [(0, .inr (.inr (2, some s))), (1, .inl x1), (2, .inl x2), (3, .inl x3), (4, .inl x4)] [] M := by
  rw [← q_X2_act fu s x1 x2 x3 x4 M] at h
  have hT : ∀ w ∈ xG, w ∈ (Cond.code yX2_act cX2_act 5 (some .boolean) :: xG) := fun w hw => List.mem_cons_of_mem _ hw
  refine xrun_sound (nst := 0) (isInit := false) (kd := kdX2) X (xcls_mono hT xclsG) (xpool_mono hT plX2) (fun z => by cases z) (fun idx v hf => xkoE_mono hT (koX2_ok _ (xfind_mem hf))) (xents (ca := _) ?_) (endZ hE).1 (endZ hE).2 (xcuts (cu := _) ?_) pr_X2_act.1 pr_X2_act.2 _ _ _ _ _ _ _ _ (xat_ok pr_X2_act.1 pr_X2_act.2).1 (xat_ok pr_X2_act.1 pr_X2_act.2).2.1 (xat_ok pr_X2_act.1 pr_X2_act.2).2.2 h
  · exact (List.forall_mem_cons.mpr ⟨(xent_met X (ci := 2) hT cd_X2_writePage lk_X2_81 rfl (by decide) rfl (by decide +kernel) (fun z => absurd z (by decide)) (hw_X2_writePage l D cA sA fu 0) (fun _ => ⟨by decide, fun _ => ⟨TX2, 16, rfl⟩⟩) (by constructor <;> omega) (by decide)), (List.forall_mem_cons.mpr ⟨(xent_met X (ci := 2) hT cd_X2_removeFile lk_X2_85 rfl (by decide) rfl (by decide +kernel) (fun z => absurd z (by decide)) (hw_X2_removeFile l D cA sA fu 0) (fun _ => ⟨by decide, fun _ => ⟨TX2, 16, rfl⟩⟩) (by constructor <;> omega) (by decide)), (List.forall_mem_cons.mpr ⟨(xent_met X (ci := 2) hT cd_X2_openFile lk_X2_89 rfl (by decide) rfl (by decide +kernel) (fun z => absurd z (by decide)) (hw_X2_openFile l D cA sA fu 0) (fun _ => ⟨by decide, fun _ => ⟨TX2, 16, rfl⟩⟩) (by constructor <;> omega) (by decide)), (List.forall_mem_cons.mpr ⟨(xent_met X (ci := 2) hT cd_X2_closeFile lk_X2_93 rfl (by decide) rfl (by decide +kernel) (fun z => absurd z (by decide)) (hw_X2_closeFile l D cA sA fu 0) (fun _ => ⟨by decide, fun _ => ⟨TX2, 16, rfl⟩⟩) (by constructor <;> omega) (by decide)), (List.forall_mem_cons.mpr ⟨(xent_met X (ci := 2) hT cd_X2_commitPages lk_X2_96 rfl (by decide) rfl (by decide +kernel) (fun z => absurd z (by decide)) (hw_X2_commitPages l D cA sA fu 0) (fun _ => ⟨by decide, fun _ => ⟨TX2, 16, rfl⟩⟩) (by constructor <;> omega) (by decide)), (List.forall_mem_cons.mpr ⟨(xent_met X (ci := 2) hT cd_X2_collectBlock lk_X2_100 rfl (by decide) rfl (by decide +kernel) (fun z => absurd z (by decide)) (hw_X2_collectBlock l D cA sA fu 0) (fun _ => ⟨by decide, fun _ => ⟨TX2, 16, rfl⟩⟩) (by constructor <;> omega) (by decide)), (fun _ h => nomatch h)⟩)⟩)⟩)⟩)⟩)⟩)
  · exact (fun _ h => nomatch h)

theorem ok_X2_act (l : Launch) (D : va_G) (cA : Nat → ClassId) (sA : Nat → Nat) (fu : Nat) (s : Nat) (x1 : Int32) (x2 : Int32) (x3 : Int32) (x4 : Int32) (M : xM) {rr : Int32 × xM} (h : F_X2_act fu s x1 x2 x3 x4 M = some rr) : xMet l D cA sA yX2_act cX2_act 5 (some .boolean) xG (10 + 1) 0 0 [.inr (.inr (2, some s)), .inl x1, .inl x2, .inl x3, .inl x4] M (some (.inl rr.1)) rr.2 :=
  xmet_of (by decide +kernel) (Nat.le_of_ble_eq_true rfl) (fun p e s1 m ag below meth c0 A0 ad0 Z X hn hE => wx_X2_act X hn ⟨Nat.le_refl _, Nat.le_refl _⟩ hE fu s x1 x2 x3 x4 M h)
theorem hw_X2_act (l : Launch) (D : va_G) (cA : Nat → ClassId) (sA : Nat → Nat) (fu : Nat) {ρ : Type} {r0 : ρ} (kd1 : Nat) : ∀ (as : List xV) (M : xM) (k : Option xV → xM → Option ρ), w_X2_act fu as M k = some r0 → ∃ v M', xMet l D cA sA yX2_act cX2_act 5 (some .boolean) xG (10 + 1) 0 0 as M v M' ∧ k v M' = some r0 ∧ (kd1 ≠ 2 → ∃ a as', as = .inr (.inr (2, some a)) :: as') := by
  intro as M k h
  unfold w_X2_act at h
  replace h := pR_some h
  obtain ⟨o, as1, rfl, h⟩ := h
  replace h := bd_some h
  obtain ⟨s, rfl, h⟩ := h
  replace h := pI_some h
  obtain ⟨x1, as1, rfl, h⟩ := h
  replace h := pI_some h
  obtain ⟨x2, as1, rfl, h⟩ := h
  replace h := pI_some h
  obtain ⟨x3, as1, rfl, h⟩ := h
  replace h := pI_some h
  obtain ⟨x4, as1, rfl, h⟩ := h
  replace h := xe_some h
  obtain ⟨rfl, h⟩ := h
  obtain ⟨p1, hp, h⟩ := Option.bind_eq_some_iff.mp h
  exact ⟨_, _, ok_X2_act l D cA sA fu s x1 x2 x3 x4 M hp, h, fun _ => ⟨_, _, rfl⟩⟩
theorem cd_X3_mapOf : Cond.code yX3_mapOf cX3_mapOf 2 (some .int) ∈ xG := (xg 1205 (by decide +kernel) (by decide +kernel))
theorem pr_X3_mapOf : (∀ e ∈ pX3_mapOf, xrow cX3_mapOf 2 kdX3 flX3 0 false RX3 e) ∧ xnext pX3_mapOf = true := xrows (by decide +kernel)
set_option maxRecDepth 100000 in
theorem wx_X3_mapOf (X : xCtx p R S0 m ag c0 D cA A0 sA 2 cX3_mapOf RX3 (.code yX3_mapOf cX3_mapOf 2 (some .int) :: xG) 0 0) (hi : meth.name = yX3_mapOf.name) (hroom : 0 + 2 ≤ R.frames ∧ 60 * (0 + 2) ≤ R.locals) {rr : Int32 × xM} (hE : xEnd l D cA sA cX3_mapOf 2 (some .int) R 0 0 (some (.inl rr.1)) rr.2 p e S0 m ag below meth c0 A0 M0 ad0 Z) (fu : Nat) (s : Nat) (x1 : Int32) (M : xM) (h : F_X3_mapOf fu s x1 M = some rr) : xWx p l e R S0 m ag below meth c0 D cA A0 sA M0 ad0 2 Z 0 0 0 0 0 [(0, .inr (.inr (3, some s))), (1, .inl x1)] [] M := by
  rw [← q_X3_mapOf fu s x1 M] at h
  have hT : ∀ w ∈ xG, w ∈ (Cond.code yX3_mapOf cX3_mapOf 2 (some .int) :: xG) := fun w hw => List.mem_cons_of_mem _ hw
  refine xrun_sound (nst := 0) (isInit := false) (kd := kdX3) X (xcls_mono hT xclsG) (xpool_mono hT plX3) (fun z => by cases z) (fun idx v hf => xkoE_mono hT (koX3_ok _ (xfind_mem hf))) (xents (ca := _) ?_) (endI hE).1 (endI hE).2 (xcuts (cu := _) ?_) pr_X3_mapOf.1 pr_X3_mapOf.2 _ _ _ _ _ _ _ _ (xat_ok pr_X3_mapOf.1 pr_X3_mapOf.2).1 (xat_ok pr_X3_mapOf.1 pr_X3_mapOf.2).2.1 (xat_ok pr_X3_mapOf.1 pr_X3_mapOf.2).2.2 h
  · exact (fun _ h => nomatch h)
  · exact (fun _ h => nomatch h)

theorem ok_X3_mapOf (l : Launch) (D : va_G) (cA : Nat → ClassId) (sA : Nat → Nat) (fu : Nat) (s : Nat) (x1 : Int32) (M : xM) {rr : Int32 × xM} (h : F_X3_mapOf fu s x1 M = some rr) : xMet l D cA sA yX3_mapOf cX3_mapOf 2 (some .int) xG (0 + 1) 0 0 [.inr (.inr (3, some s)), .inl x1] M (some (.inl rr.1)) rr.2 :=
  xmet_of (by decide +kernel) (Nat.le_of_ble_eq_true rfl) (fun p e s1 m ag below meth c0 A0 ad0 Z X hn hE => wx_X3_mapOf X hn ⟨Nat.le_refl _, Nat.le_refl _⟩ hE fu s x1 M h)
theorem hw_X3_mapOf (l : Launch) (D : va_G) (cA : Nat → ClassId) (sA : Nat → Nat) (fu : Nat) {ρ : Type} {r0 : ρ} (kd1 : Nat) : ∀ (as : List xV) (M : xM) (k : Option xV → xM → Option ρ), w_X3_mapOf fu as M k = some r0 → ∃ v M', xMet l D cA sA yX3_mapOf cX3_mapOf 2 (some .int) xG (0 + 1) 0 0 as M v M' ∧ k v M' = some r0 ∧ (kd1 ≠ 2 → ∃ a as', as = .inr (.inr (3, some a)) :: as') := by
  intro as M k h
  unfold w_X3_mapOf at h
  replace h := pR_some h
  obtain ⟨o, as1, rfl, h⟩ := h
  replace h := bd_some h
  obtain ⟨s, rfl, h⟩ := h
  replace h := pI_some h
  obtain ⟨x1, as1, rfl, h⟩ := h
  replace h := xe_some h
  obtain ⟨rfl, h⟩ := h
  obtain ⟨p1, hp, h⟩ := Option.bind_eq_some_iff.mp h
  exact ⟨_, _, ok_X3_mapOf l D cA sA fu s x1 M hp, h, fun _ => ⟨_, _, rfl⟩⟩
theorem lk_X5_100 : xLink xG RX5 100 0 yX3_mapOf 1 := ⟨Or.inl (xg 1202 (by decide +kernel) (by decide +kernel)), (xg 1203 (by decide +kernel) (by decide +kernel)), (xg 1204 (by decide +kernel) (by decide +kernel)), (xg 139 (by decide +kernel) (by decide +kernel)), ⟨3, by decide, TX3, 6, rfl⟩⟩
theorem lk_X5_104 : xLink xG RX5 104 0 yX3_isAlike 2 := ⟨Or.inl (xg 1206 (by decide +kernel) (by decide +kernel)), (xg 1058 (by decide +kernel) (by decide +kernel)), (xg 1059 (by decide +kernel) (by decide +kernel)), (xg 139 (by decide +kernel) (by decide +kernel)), ⟨3, by decide, TX3, 6, rfl⟩⟩
theorem cd_X5_countHalfDone : Cond.code yX5_countHalfDone cX5_countHalfDone 4 none ∈ xG := (xg 1201 (by decide +kernel) (by decide +kernel))
theorem pr_X5_countHalfDone : (∀ e ∈ pX5_countHalfDone, xrow cX5_countHalfDone 4 kdX5 flX5 0 false RX5 e) ∧ xnext pX5_countHalfDone = true := xrows (by decide +kernel)
set_option maxRecDepth 100000 in
theorem wx_X5_countHalfDone_2 (X : xCtx p R S0 m ag c0 D cA A0 sA 4 cX5_countHalfDone RX5 (.code yX5_countHalfDone cX5_countHalfDone 4 none :: xG) 0 0) (hi : meth.name = yX5_countHalfDone.name) (hroom : 1 + 2 ≤ R.frames ∧ 60 * (1 + 2) ≤ R.locals) {rr : xM} (hE : xEnd l D cA sA cX5_countHalfDone 4 none R 0 0 none rr p e S0 m ag below meth c0 A0 M0 ad0 Z) (fu : Nat) : ∀ (n : Nat) (s : Nat) (x2 : Int32) (M : xM), L_X5_countHalfDone_2 fu n s x2 M = some rr → xWx p l e R S0 m ag below meth c0 D cA A0 sA M0 ad0 4 Z 0 0 2 0 0 [(0, .inr (.inr (5, some s))), (2, .inl x2)] [] M := by
  intro n
  induction n with
  | zero => intro s x2 M h; cases h
  | succ n ih =>
    intro s x2 M h
    rw [← q_X5_countHalfDone_2 fu n s x2 M] at h
    have hT : ∀ w ∈ xG, w ∈ (Cond.code yX5_countHalfDone cX5_countHalfDone 4 none :: xG) := fun w hw => List.mem_cons_of_mem _ hw
    refine xrun_sound (nst := 0) (isInit := false) (kd := kdX5) X (xcls_mono hT xclsG) (xpool_mono hT plX5) (fun z => by cases z) (fun idx v hf => xkoE_mono hT (koX5_ok _ (xfind_mem hf))) (xents (ca := _) ?_) (endV hE).1 (endV hE).2 (xcuts (cu := _) ?_) pr_X5_countHalfDone.1 pr_X5_countHalfDone.2 _ _ _ _ _ _ _ _ (xat_ok pr_X5_countHalfDone.1 pr_X5_countHalfDone.2).1 (xat_ok pr_X5_countHalfDone.1 pr_X5_countHalfDone.2).2.1 (xat_ok pr_X5_countHalfDone.1 pr_X5_countHalfDone.2).2.2 h
    · exact (List.forall_mem_cons.mpr ⟨(xent_met X (ci := 3) hT cd_X3_mapOf lk_X5_100 rfl (by decide) rfl (by decide +kernel) (fun z => absurd z (by decide)) (hw_X3_mapOf l D cA sA fu 0) (fun _ => ⟨by decide, fun _ => ⟨TX3, 6, rfl⟩⟩) (by constructor <;> omega) (by decide)), (List.forall_mem_cons.mpr ⟨(xent_met X (ci := 3) hT cd_X3_isAlike lk_X5_104 rfl (by decide) rfl (by decide +kernel) (fun z => absurd z (by decide)) (hw_X3_isAlike l D cA sA fu 0) (fun _ => ⟨by decide, fun _ => ⟨TX3, 6, rfl⟩⟩) (by constructor <;> omega) (by decide)), (fun _ h => nomatch h)⟩)⟩)
    · refine (List.forall_mem_cons.mpr ⟨?_, (fun _ h => nomatch h)⟩)
      · intro bc bs ls st M h
        replace h := xz_some h
        obtain ⟨rfl, rfl, h⟩ := h
        replace h := lR_some h
        obtain ⟨o, e0, h⟩ := h
        replace h := bd_some h
        obtain ⟨s', rfl, h⟩ := h
        replace h := lI_some h
        obtain ⟨x2', e2, h⟩ := h
        replace h := xe_some h
        obtain ⟨rfl, h⟩ := h
        exact xWx_ls (ih s' x2' M h) (List.forall_mem_cons.mpr ⟨e0, (List.forall_mem_cons.mpr ⟨e2, (fun _ h => nomatch h)⟩)⟩)

set_option maxRecDepth 100000 in
theorem wx_X5_countHalfDone (X : xCtx p R S0 m ag c0 D cA A0 sA 4 cX5_countHalfDone RX5 (.code yX5_countHalfDone cX5_countHalfDone 4 none :: xG) 0 0) (hi : meth.name = yX5_countHalfDone.name) (hroom : 1 + 2 ≤ R.frames ∧ 60 * (1 + 2) ≤ R.locals) {rr : xM} (hE : xEnd l D cA sA cX5_countHalfDone 4 none R 0 0 none rr p e S0 m ag below meth c0 A0 M0 ad0 Z) (fu : Nat) (s : Nat) (x1 : Int32) (M : xM) (h : F_X5_countHalfDone fu s x1 M = some rr) : xWx p l e R S0 m ag below meth c0 D cA A0 sA M0 ad0 4 Z 0 0 0 0 0 [(0, .inr (.inr (5, some s))), (1, .inl x1)] [] M := by
  rw [← q_X5_countHalfDone fu s x1 M] at h
  have hT : ∀ w ∈ xG, w ∈ (Cond.code yX5_countHalfDone cX5_countHalfDone 4 none :: xG) := fun w hw => List.mem_cons_of_mem _ hw
  refine xrun_sound (nst := 0) (isInit := false) (kd := kdX5) X (xcls_mono hT xclsG) (xpool_mono hT plX5) (fun z => by cases z) (fun idx v hf => xkoE_mono hT (koX5_ok _ (xfind_mem hf))) (xents (ca := _) ?_) (endV hE).1 (endV hE).2 (xcuts (cu := _) ?_) pr_X5_countHalfDone.1 pr_X5_countHalfDone.2 _ _ _ _ _ _ _ _ (xat_ok pr_X5_countHalfDone.1 pr_X5_countHalfDone.2).1 (xat_ok pr_X5_countHalfDone.1 pr_X5_countHalfDone.2).2.1 (xat_ok pr_X5_countHalfDone.1 pr_X5_countHalfDone.2).2.2 h
  · exact (fun _ h => nomatch h)
  · refine (List.forall_mem_cons.mpr ⟨?_, (fun _ h => nomatch h)⟩)
    · intro bc bs ls st M h
      replace h := xz_some h
      obtain ⟨rfl, rfl, h⟩ := h
      replace h := lR_some h
      obtain ⟨o, e0, h⟩ := h
      replace h := bd_some h
      obtain ⟨s', rfl, h⟩ := h
      replace h := lI_some h
      obtain ⟨x2', e2, h⟩ := h
      replace h := xe_some h
      obtain ⟨rfl, h⟩ := h
      exact xWx_ls (wx_X5_countHalfDone_2 X hi hroom hE fu fu s' x2' M h) (List.forall_mem_cons.mpr ⟨e0, (List.forall_mem_cons.mpr ⟨e2, (fun _ h => nomatch h)⟩)⟩)

theorem ok_X5_countHalfDone (l : Launch) (D : va_G) (cA : Nat → ClassId) (sA : Nat → Nat) (fu : Nat) (s : Nat) (x1 : Int32) (M : xM) {rr : xM} (h : F_X5_countHalfDone fu s x1 M = some rr) : xMet l D cA sA yX5_countHalfDone cX5_countHalfDone 4 none xG (1 + 1) 0 0 [.inr (.inr (5, some s)), .inl x1] M none rr :=
  xmet_of (by decide +kernel) (Nat.le_of_ble_eq_true rfl) (fun p e s1 m ag below meth c0 A0 ad0 Z X hn hE => wx_X5_countHalfDone X hn ⟨Nat.le_refl _, Nat.le_refl _⟩ hE fu s x1 M h)
theorem hw_X5_countHalfDone (l : Launch) (D : va_G) (cA : Nat → ClassId) (sA : Nat → Nat) (fu : Nat) {ρ : Type} {r0 : ρ} (kd1 : Nat) : ∀ (as : List xV) (M : xM) (k : Option xV → xM → Option ρ), w_X5_countHalfDone fu as M k = some r0 → ∃ v M', xMet l D cA sA yX5_countHalfDone cX5_countHalfDone 4 none xG (1 + 1) 0 0 as M v M' ∧ k v M' = some r0 ∧ (kd1 ≠ 2 → ∃ a as', as = .inr (.inr (5, some a)) :: as') := by
  intro as M k h
  unfold w_X5_countHalfDone at h
  replace h := pR_some h
  obtain ⟨o, as1, rfl, h⟩ := h
  replace h := bd_some h
  obtain ⟨s, rfl, h⟩ := h
  replace h := pI_some h
  obtain ⟨x1, as1, rfl, h⟩ := h
  replace h := xe_some h
  obtain ⟨rfl, h⟩ := h
  obtain ⟨p1, hp, h⟩ := Option.bind_eq_some_iff.mp h
  exact ⟨_, _, ok_X5_countHalfDone l D cA sA fu s x1 M hp, h, fun _ => ⟨_, _, rfl⟩⟩
theorem lk_X5_57 : xLink xG RX5 57 0 yX4_find 1 := ⟨Or.inl (xg 1188 (by decide +kernel) (by decide +kernel)), (xg 1036 (by decide +kernel) (by decide +kernel)), (xg 1037 (by decide +kernel) (by decide +kernel)), (xg 133 (by decide +kernel) (by decide +kernel)), ⟨4, by decide, TX4, 4, rfl⟩⟩
theorem lk_X5_96 : xLink xG RX5 96 0 yX5_countHalfDone 1 := ⟨Or.inl (xg 1198 (by decide +kernel) (by decide +kernel)), (xg 1200 (by decide +kernel) (by decide +kernel)), (xg 32 (by decide +kernel) (by decide +kernel)), (xg 138 (by decide +kernel) (by decide +kernel)), ⟨5, by decide, TX5, 7, rfl⟩⟩
theorem lk_X5_92 : xLink xG RX5 92 0 yX2_act 4 := ⟨Or.inl (xg 1190 (by decide +kernel) (by decide +kernel)), (xg 1191 (by decide +kernel) (by decide +kernel)), (xg 1192 (by decide +kernel) (by decide +kernel)), (xg 134 (by decide +kernel) (by decide +kernel)), ⟨2, by decide, TX2, 16, rfl⟩⟩
theorem lk_X5_39 : xLink xG RX5 39 0 yX3_clear 0 := ⟨Or.inl (xg 1183 (by decide +kernel) (by decide +kernel)), (xg 1184 (by decide +kernel) (by decide +kernel)), (xg 1185 (by decide +kernel) (by decide +kernel)), (xg 139 (by decide +kernel) (by decide +kernel)), ⟨3, by decide, TX3, 6, rfl⟩⟩
theorem lk_X5_42 : xLink xG RX5 42 0 yX2_start 1 := ⟨Or.inl (xg 1187 (by decide +kernel) (by decide +kernel)), (xg 856 (by decide +kernel) (by decide +kernel)), (xg 857 (by decide +kernel) (by decide +kernel)), (xg 134 (by decide +kernel) (by decide +kernel)), ⟨2, by decide, TX2, 16, rfl⟩⟩
theorem cd_X5_run : Cond.code yX5_run cX5_run 6 none ∈ xG := (xg 1182 (by decide +kernel) (by decide +kernel))
theorem pr_X5_run : (∀ e ∈ pX5_run, xrow cX5_run 6 kdX5 flX5 0 false RX5 e) ∧ xnext pX5_run = true := xrows (by decide +kernel)
set_option maxRecDepth 100000 in
theorem wx_X5_run_171 (X : xCtx p R S0 m ag c0 D cA A0 sA 6 cX5_run RX5 (.code yX5_run cX5_run 6 none :: xG) 0 0) (hi : meth.name = yX5_run.name) (hroom : 11 + 2 ≤ R.frames ∧ 60 * (11 + 2) ≤ R.locals) {rr : xM} (hE : xEnd l D cA sA cX5_run 6 none R 0 0 none rr p e S0 m ag below meth c0 A0 M0 ad0 Z) (fu : Nat) (s : Nat) (M : xM) (h : J_X5_run_171 fu s M = some rr) : xWx p l e R S0 m ag below meth c0 D cA A0 sA M0 ad0 6 Z 0 0 171 0 0 [(0, .inr (.inr (5, some s)))] [] M := by
  rw [← q_X5_run_171 fu s M] at h
  have hT : ∀ w ∈ xG, w ∈ (Cond.code yX5_run cX5_run 6 none :: xG) := fun w hw => List.mem_cons_of_mem _ hw
  refine xrun_sound (nst := 0) (isInit := false) (kd := kdX5) X (xcls_mono hT xclsG) (xpool_mono hT plX5) (fun z => by cases z) (fun idx v hf => xkoE_mono hT (koX5_ok _ (xfind_mem hf))) (xents (ca := _) ?_) (endV hE).1 (endV hE).2 (xcuts (cu := _) ?_) pr_X5_run.1 pr_X5_run.2 _ _ _ _ _ _ _ _ (xat_ok pr_X5_run.1 pr_X5_run.2).1 (xat_ok pr_X5_run.1 pr_X5_run.2).2.1 (xat_ok pr_X5_run.1 pr_X5_run.2).2.2 h
  · exact (List.forall_mem_cons.mpr ⟨(xent_arraycopy X hT (xg 1189 (by decide +kernel) (by decide +kernel)) (xg 1063 (by decide +kernel) (by decide +kernel)) (xg 1062 (by decide +kernel) (by decide +kernel)) (xg 147 (by decide +kernel) (by decide +kernel)) rfl), (fun _ h => nomatch h)⟩)
  · exact (fun _ h => nomatch h)

set_option maxRecDepth 100000 in
theorem wx_X5_run_145 (X : xCtx p R S0 m ag c0 D cA A0 sA 6 cX5_run RX5 (.code yX5_run cX5_run 6 none :: xG) 0 0) (hi : meth.name = yX5_run.name) (hroom : 11 + 2 ≤ R.frames ∧ 60 * (11 + 2) ≤ R.locals) {rr : xM} (hE : xEnd l D cA sA cX5_run 6 none R 0 0 none rr p e S0 m ag below meth c0 A0 M0 ad0 Z) (fu : Nat) (k54 : Nat → Option Nat → Int32 → xM → Option xM) (hk54 : ∀ (s : Nat) (x2 : Option Nat) (x3 : Int32) (M : xM), k54 s x2 x3 M = some rr → xWx p l e R S0 m ag below meth c0 D cA A0 sA M0 ad0 6 Z 0 0 54 0 0 [(0, .inr (.inr (5, some s))), (2, .inr (.inr (9, x2))), (3, .inl x3)] [] M) (s : Nat) (x2 : Option Nat) (x3 : Int32) (x4 : Int32) (M : xM) (h : J_X5_run_145 fu k54 s x2 x3 x4 M = some rr) : xWx p l e R S0 m ag below meth c0 D cA A0 sA M0 ad0 6 Z 0 0 145 0 0 [(0, .inr (.inr (5, some s))), (2, .inr (.inr (9, x2))), (3, .inl x3), (4, .inl x4)] [] M := by
  rw [← q_X5_run_145 fu k54 s x2 x3 x4 M] at h
  have hT : ∀ w ∈ xG, w ∈ (Cond.code yX5_run cX5_run 6 none :: xG) := fun w hw => List.mem_cons_of_mem _ hw
  refine xrun_sound (nst := 0) (isInit := false) (kd := kdX5) X (xcls_mono hT xclsG) (xpool_mono hT plX5) (fun z => by cases z) (fun idx v hf => xkoE_mono hT (koX5_ok _ (xfind_mem hf))) (xents (ca := _) ?_) (endV hE).1 (endV hE).2 (xcuts (cu := _) ?_) pr_X5_run.1 pr_X5_run.2 _ _ _ _ _ _ _ _ (xat_ok pr_X5_run.1 pr_X5_run.2).1 (xat_ok pr_X5_run.1 pr_X5_run.2).2.1 (xat_ok pr_X5_run.1 pr_X5_run.2).2.2 h
  · exact (List.forall_mem_cons.mpr ⟨(xent_met X (ci := 4) hT cd_X4_find lk_X5_57 rfl (by decide) rfl (by decide +kernel) (fun z => absurd z (by decide)) (hw_X4_find l D cA sA fu 0) (fun _ => ⟨by decide, fun _ => ⟨TX4, 4, rfl⟩⟩) (by constructor <;> omega) (by decide)), (List.forall_mem_cons.mpr ⟨(xent_met X (ci := 5) hT cd_X5_countHalfDone lk_X5_96 rfl (by decide) rfl (by decide +kernel) (fun z => absurd z (by decide)) (hw_X5_countHalfDone l D cA sA fu 0) (fun _ => ⟨by decide, fun _ => ⟨TX5, 7, rfl⟩⟩) (by constructor <;> omega) (by decide)), (fun _ h => nomatch h)⟩)⟩)
  · refine (List.forall_mem_cons.mpr ⟨?_, (fun _ h => nomatch h)⟩)
    · intro bc bs ls st M h
      replace h := xz_some h
      obtain ⟨rfl, rfl, h⟩ := h
      replace h := lR_some h
      obtain ⟨o, e0, h⟩ := h
      replace h := bd_some h
      obtain ⟨s', rfl, h⟩ := h
      replace h := lR_some h
      obtain ⟨x2', e2, h⟩ := h
      replace h := lI_some h
      obtain ⟨x3', e3, h⟩ := h
      replace h := xe_some h
      obtain ⟨rfl, h⟩ := h
      exact xWx_ls (hk54 s' x2' x3' M h) (List.forall_mem_cons.mpr ⟨e0, (List.forall_mem_cons.mpr ⟨e2, (List.forall_mem_cons.mpr ⟨e3, (fun _ h => nomatch h)⟩)⟩)⟩)

set_option maxRecDepth 100000 in
theorem wx_X5_run_54 (X : xCtx p R S0 m ag c0 D cA A0 sA 6 cX5_run RX5 (.code yX5_run cX5_run 6 none :: xG) 0 0) (hi : meth.name = yX5_run.name) (hroom : 11 + 2 ≤ R.frames ∧ 60 * (11 + 2) ≤ R.locals) {rr : xM} (hE : xEnd l D cA sA cX5_run 6 none R 0 0 none rr p e S0 m ag below meth c0 A0 M0 ad0 Z) (fu : Nat) : ∀ (n : Nat) (s : Nat) (x2 : Option Nat) (x3 : Int32) (M : xM), L_X5_run_54 fu n s x2 x3 M = some rr → xWx p l e R S0 m ag below meth c0 D cA A0 sA M0 ad0 6 Z 0 0 54 0 0 [(0, .inr (.inr (5, some s))), (2, .inr (.inr (9, x2))), (3, .inl x3)] [] M := by
  intro n
  induction n with
  | zero => intro s x2 x3 M h; cases h
  | succ n ih =>
    intro s x2 x3 M h
    rw [← q_X5_run_54 fu n s x2 x3 M] at h
    have hT : ∀ w ∈ xG, w ∈ (Cond.code yX5_run cX5_run 6 none :: xG) := fun w hw => List.mem_cons_of_mem _ hw
    refine xrun_sound (nst := 0) (isInit := false) (kd := kdX5) X (xcls_mono hT xclsG) (xpool_mono hT plX5) (fun z => by cases z) (fun idx v hf => xkoE_mono hT (koX5_ok _ (xfind_mem hf))) (xents (ca := _) ?_) (endV hE).1 (endV hE).2 (xcuts (cu := _) ?_) pr_X5_run.1 pr_X5_run.2 _ _ _ _ _ _ _ _ (xat_ok pr_X5_run.1 pr_X5_run.2).1 (xat_ok pr_X5_run.1 pr_X5_run.2).2.1 (xat_ok pr_X5_run.1 pr_X5_run.2).2.2 h
    · exact (List.forall_mem_cons.mpr ⟨(xent_arraycopy X hT (xg 1189 (by decide +kernel) (by decide +kernel)) (xg 1063 (by decide +kernel) (by decide +kernel)) (xg 1062 (by decide +kernel) (by decide +kernel)) (xg 147 (by decide +kernel) (by decide +kernel)) rfl), (List.forall_mem_cons.mpr ⟨(xent_met X (ci := 2) hT cd_X2_act lk_X5_92 rfl (by decide) rfl (by decide +kernel) (fun z => absurd z (by decide)) (hw_X2_act l D cA sA fu 0) (fun _ => ⟨by decide, fun _ => ⟨TX2, 16, rfl⟩⟩) (by constructor <;> omega) (by decide)), (fun _ h => nomatch h)⟩)⟩)
    · refine (List.forall_mem_cons.mpr ⟨?_, (List.forall_mem_cons.mpr ⟨?_, (fun _ h => nomatch h)⟩)⟩)
      · intro bc bs ls st M h
        replace h := xz_some h
        obtain ⟨rfl, rfl, h⟩ := h
        replace h := lR_some h
        obtain ⟨o, e0, h⟩ := h
        replace h := bd_some h
        obtain ⟨s', rfl, h⟩ := h
        replace h := lR_some h
        obtain ⟨x2', e2, h⟩ := h
        replace h := lI_some h
        obtain ⟨x3', e3, h⟩ := h
        replace h := lI_some h
        obtain ⟨x4', e4, h⟩ := h
        replace h := xe_some h
        obtain ⟨rfl, h⟩ := h
        exact xWx_ls (wx_X5_run_145 X hi hroom hE fu _ ih s' x2' x3' x4' M h) (List.forall_mem_cons.mpr ⟨e0, (List.forall_mem_cons.mpr ⟨e2, (List.forall_mem_cons.mpr ⟨e3, (List.forall_mem_cons.mpr ⟨e4, (fun _ h => nomatch h)⟩)⟩)⟩)⟩)
      · intro bc bs ls st M h
        replace h := xz_some h
        obtain ⟨rfl, rfl, h⟩ := h
        replace h := lR_some h
        obtain ⟨o, e0, h⟩ := h
        replace h := bd_some h
        obtain ⟨s', rfl, h⟩ := h
        replace h := xe_some h
        obtain ⟨rfl, h⟩ := h
        exact xWx_ls (wx_X5_run_171 X hi hroom hE fu s' M h) (List.forall_mem_cons.mpr ⟨e0, (fun _ h => nomatch h)⟩)

set_option maxRecDepth 100000 in
theorem wx_X5_run (X : xCtx p R S0 m ag c0 D cA A0 sA 6 cX5_run RX5 (.code yX5_run cX5_run 6 none :: xG) 0 0) (hi : meth.name = yX5_run.name) (hroom : 11 + 2 ≤ R.frames ∧ 60 * (11 + 2) ≤ R.locals) {rr : xM} (hE : xEnd l D cA sA cX5_run 6 none R 0 0 none rr p e S0 m ag below meth c0 A0 M0 ad0 Z) (fu : Nat) (s : Nat) (x1 : Option Nat) (x2 : Option Nat) (M : xM) (h : F_X5_run fu s x1 x2 M = some rr) : xWx p l e R S0 m ag below meth c0 D cA A0 sA M0 ad0 6 Z 0 0 0 0 0 [(0, .inr (.inr (5, some s))), (1, .inr (.inr (7, x1))), (2, .inr (.inr (9, x2)))] [] M := by
  rw [← q_X5_run fu s x1 x2 M] at h
  have hT : ∀ w ∈ xG, w ∈ (Cond.code yX5_run cX5_run 6 none :: xG) := fun w hw => List.mem_cons_of_mem _ hw
  refine xrun_sound (nst := 0) (isInit := false) (kd := kdX5) X (xcls_mono hT xclsG) (xpool_mono hT plX5) (fun z => by cases z) (fun idx v hf => xkoE_mono hT (koX5_ok _ (xfind_mem hf))) (xents (ca := _) ?_) (endV hE).1 (endV hE).2 (xcuts (cu := _) ?_) pr_X5_run.1 pr_X5_run.2 _ _ _ _ _ _ _ _ (xat_ok pr_X5_run.1 pr_X5_run.2).1 (xat_ok pr_X5_run.1 pr_X5_run.2).2.1 (xat_ok pr_X5_run.1 pr_X5_run.2).2.2 h
  · exact (List.forall_mem_cons.mpr ⟨(xent_met X (ci := 3) hT cd_X3_clear lk_X5_39 rfl (by decide) rfl (by decide +kernel) (fun z => absurd z (by decide)) (hw_X3_clear l D cA sA fu 0) (fun _ => ⟨by decide, fun _ => ⟨TX3, 6, rfl⟩⟩) (by constructor <;> omega) (by decide)), (List.forall_mem_cons.mpr ⟨(xent_met X (ci := 2) hT cd_X2_start lk_X5_42 rfl (by decide) rfl (by decide +kernel) (fun z => absurd z (by decide)) (hw_X2_start l D cA sA fu 0) (fun _ => ⟨by decide, fun _ => ⟨TX2, 16, rfl⟩⟩) (by constructor <;> omega) (by decide)), (List.forall_mem_cons.mpr ⟨(xent_met X (ci := 4) hT cd_X4_find lk_X5_57 rfl (by decide) rfl (by decide +kernel) (fun z => absurd z (by decide)) (hw_X4_find l D cA sA fu 0) (fun _ => ⟨by decide, fun _ => ⟨TX4, 4, rfl⟩⟩) (by constructor <;> omega) (by decide)), (fun _ h => nomatch h)⟩)⟩)⟩)
  · refine (List.forall_mem_cons.mpr ⟨?_, (fun _ h => nomatch h)⟩)
    · intro bc bs ls st M h
      replace h := xz_some h
      obtain ⟨rfl, rfl, h⟩ := h
      replace h := lR_some h
      obtain ⟨o, e0, h⟩ := h
      replace h := bd_some h
      obtain ⟨s', rfl, h⟩ := h
      replace h := lR_some h
      obtain ⟨x2', e2, h⟩ := h
      replace h := lI_some h
      obtain ⟨x3', e3, h⟩ := h
      replace h := xe_some h
      obtain ⟨rfl, h⟩ := h
      exact xWx_ls (wx_X5_run_54 X hi hroom hE fu fu s' x2' x3' M h) (List.forall_mem_cons.mpr ⟨e0, (List.forall_mem_cons.mpr ⟨e2, (List.forall_mem_cons.mpr ⟨e3, (fun _ h => nomatch h)⟩)⟩)⟩)

theorem ok_X5_run (l : Launch) (D : va_G) (cA : Nat → ClassId) (sA : Nat → Nat) (fu : Nat) (s : Nat) (x1 : Option Nat) (x2 : Option Nat) (M : xM) {rr : xM} (h : F_X5_run fu s x1 x2 M = some rr) : xMet l D cA sA yX5_run cX5_run 6 none xG (11 + 1) 0 0 [.inr (.inr (5, some s)), .inr (.inr (7, x1)), .inr (.inr (9, x2))] M none rr :=
  xmet_of (by decide +kernel) (Nat.le_of_ble_eq_true rfl) (fun p e s1 m ag below meth c0 A0 ad0 Z X hn hE => wx_X5_run X hn ⟨Nat.le_refl _, Nat.le_refl _⟩ hE fu s x1 x2 M h)
theorem hw_X5_run (l : Launch) (D : va_G) (cA : Nat → ClassId) (sA : Nat → Nat) (fu : Nat) {ρ : Type} {r0 : ρ} (kd1 : Nat) : ∀ (as : List xV) (M : xM) (k : Option xV → xM → Option ρ), w_X5_run fu as M k = some r0 → ∃ v M', xMet l D cA sA yX5_run cX5_run 6 none xG (11 + 1) 0 0 as M v M' ∧ k v M' = some r0 ∧ (kd1 ≠ 2 → ∃ a as', as = .inr (.inr (5, some a)) :: as') := by
  intro as M k h
  unfold w_X5_run at h
  replace h := pR_some h
  obtain ⟨o, as1, rfl, h⟩ := h
  replace h := bd_some h
  obtain ⟨s, rfl, h⟩ := h
  replace h := pR_some h
  obtain ⟨x1, as1, rfl, h⟩ := h
  replace h := pR_some h
  obtain ⟨x2, as1, rfl, h⟩ := h
  replace h := xe_some h
  obtain ⟨rfl, h⟩ := h
  obtain ⟨p1, hp, h⟩ := Option.bind_eq_some_iff.mp h
  exact ⟨_, _, ok_X5_run l D cA sA fu s x1 x2 M hp, h, fun _ => ⟨_, _, rfl⟩⟩
theorem lk_X3_42 : xLink xG RX3 42 0 yX3_mapOf 1 := ⟨Or.inl (xg 1343 (by decide +kernel) (by decide +kernel)), (xg 1203 (by decide +kernel) (by decide +kernel)), (xg 1204 (by decide +kernel) (by decide +kernel)), (xg 139 (by decide +kernel) (by decide +kernel)), ⟨3, by decide, TX3, 6, rfl⟩⟩
theorem cd_X3_saysAt : Cond.code yX3_saysAt cX3_saysAt 3 (some .int) ∈ xG := (xg 1342 (by decide +kernel) (by decide +kernel))
theorem pr_X3_saysAt : (∀ e ∈ pX3_saysAt, xrow cX3_saysAt 3 kdX3 flX3 0 false RX3 e) ∧ xnext pX3_saysAt = true := xrows (by decide +kernel)
set_option maxRecDepth 100000 in
theorem wx_X3_saysAt (X : xCtx p R S0 m ag c0 D cA A0 sA 3 cX3_saysAt RX3 (.code yX3_saysAt cX3_saysAt 3 (some .int) :: xG) 0 0) (hi : meth.name = yX3_saysAt.name) (hroom : 1 + 2 ≤ R.frames ∧ 60 * (1 + 2) ≤ R.locals) {rr : Int32 × xM} (hE : xEnd l D cA sA cX3_saysAt 3 (some .int) R 0 0 (some (.inl rr.1)) rr.2 p e S0 m ag below meth c0 A0 M0 ad0 Z) (fu : Nat) (s : Nat) (x1 : Int32) (x2 : Int32) (M : xM) (h : F_X3_saysAt fu s x1 x2 M = some rr) : xWx p l e R S0 m ag below meth c0 D cA A0 sA M0 ad0 3 Z 0 0 0 0 0 [(0, .inr (.inr (3, some s))), (1, .inl x1), (2, .inl x2)] [] M := by
  rw [← q_X3_saysAt fu s x1 x2 M] at h
  have hT : ∀ w ∈ xG, w ∈ (Cond.code yX3_saysAt cX3_saysAt 3 (some .int) :: xG) := fun w hw => List.mem_cons_of_mem _ hw
  refine xrun_sound (nst := 0) (isInit := false) (kd := kdX3) X (xcls_mono hT xclsG) (xpool_mono hT plX3) (fun z => by cases z) (fun idx v hf => xkoE_mono hT (koX3_ok _ (xfind_mem hf))) (xents (ca := _) ?_) (endI hE).1 (endI hE).2 (xcuts (cu := _) ?_) pr_X3_saysAt.1 pr_X3_saysAt.2 _ _ _ _ _ _ _ _ (xat_ok pr_X3_saysAt.1 pr_X3_saysAt.2).1 (xat_ok pr_X3_saysAt.1 pr_X3_saysAt.2).2.1 (xat_ok pr_X3_saysAt.1 pr_X3_saysAt.2).2.2 h
  · exact (List.forall_mem_cons.mpr ⟨(xent_met X (ci := 3) hT cd_X3_mapOf lk_X3_42 rfl (by decide) rfl (by decide +kernel) (fun z => absurd z (by decide)) (hw_X3_mapOf l D cA sA fu 0) (fun _ => ⟨by decide, fun _ => ⟨TX3, 6, rfl⟩⟩) (by constructor <;> omega) (by decide)), (fun _ h => nomatch h)⟩)
  · exact (fun _ h => nomatch h)

theorem ok_X3_saysAt (l : Launch) (D : va_G) (cA : Nat → ClassId) (sA : Nat → Nat) (fu : Nat) (s : Nat) (x1 : Int32) (x2 : Int32) (M : xM) {rr : Int32 × xM} (h : F_X3_saysAt fu s x1 x2 M = some rr) : xMet l D cA sA yX3_saysAt cX3_saysAt 3 (some .int) xG (1 + 1) 0 0 [.inr (.inr (3, some s)), .inl x1, .inl x2] M (some (.inl rr.1)) rr.2 :=
  xmet_of (by decide +kernel) (Nat.le_of_ble_eq_true rfl) (fun p e s1 m ag below meth c0 A0 ad0 Z X hn hE => wx_X3_saysAt X hn ⟨Nat.le_refl _, Nat.le_refl _⟩ hE fu s x1 x2 M h)
theorem hw_X3_saysAt (l : Launch) (D : va_G) (cA : Nat → ClassId) (sA : Nat → Nat) (fu : Nat) {ρ : Type} {r0 : ρ} (kd1 : Nat) : ∀ (as : List xV) (M : xM) (k : Option xV → xM → Option ρ), w_X3_saysAt fu as M k = some r0 → ∃ v M', xMet l D cA sA yX3_saysAt cX3_saysAt 3 (some .int) xG (1 + 1) 0 0 as M v M' ∧ k v M' = some r0 ∧ (kd1 ≠ 2 → ∃ a as', as = .inr (.inr (3, some a)) :: as') := by
  intro as M k h
  unfold w_X3_saysAt at h
  replace h := pR_some h
  obtain ⟨o, as1, rfl, h⟩ := h
  replace h := bd_some h
  obtain ⟨s, rfl, h⟩ := h
  replace h := pI_some h
  obtain ⟨x1, as1, rfl, h⟩ := h
  replace h := pI_some h
  obtain ⟨x2, as1, rfl, h⟩ := h
  replace h := xe_some h
  obtain ⟨rfl, h⟩ := h
  obtain ⟨p1, hp, h⟩ := Option.bind_eq_some_iff.mp h
  exact ⟨_, _, ok_X3_saysAt l D cA sA fu s x1 x2 M hp, h, fun _ => ⟨_, _, rfl⟩⟩
theorem lk_X5_116 : xLink xG RX5 116 0 yX3_saysAt 2 := ⟨Or.inl (xg 1339 (by decide +kernel) (by decide +kernel)), (xg 1340 (by decide +kernel) (by decide +kernel)), (xg 1341 (by decide +kernel) (by decide +kernel)), (xg 139 (by decide +kernel) (by decide +kernel)), ⟨3, by decide, TX3, 6, rfl⟩⟩
theorem cd_X5_saysAfter : Cond.code yX5_saysAfter cX5_saysAfter 3 (some .int) ∈ xG := (xg 1338 (by decide +kernel) (by decide +kernel))
theorem pr_X5_saysAfter : (∀ e ∈ pX5_saysAfter, xrow cX5_saysAfter 3 kdX5 flX5 0 false RX5 e) ∧ xnext pX5_saysAfter = true := xrows (by decide +kernel)
set_option maxRecDepth 100000 in
theorem wx_X5_saysAfter (X : xCtx p R S0 m ag c0 D cA A0 sA 3 cX5_saysAfter RX5 (.code yX5_saysAfter cX5_saysAfter 3 (some .int) :: xG) 0 0) (hi : meth.name = yX5_saysAfter.name) (hroom : 2 + 2 ≤ R.frames ∧ 60 * (2 + 2) ≤ R.locals) {rr : Int32 × xM} (hE : xEnd l D cA sA cX5_saysAfter 3 (some .int) R 0 0 (some (.inl rr.1)) rr.2 p e S0 m ag below meth c0 A0 M0 ad0 Z) (fu : Nat) (s : Nat) (x1 : Int32) (x2 : Int32) (M : xM) (h : F_X5_saysAfter fu s x1 x2 M = some rr) : xWx p l e R S0 m ag below meth c0 D cA A0 sA M0 ad0 3 Z 0 0 0 0 0 [(0, .inr (.inr (5, some s))), (1, .inl x1), (2, .inl x2)] [] M := by
  rw [← q_X5_saysAfter fu s x1 x2 M] at h
  have hT : ∀ w ∈ xG, w ∈ (Cond.code yX5_saysAfter cX5_saysAfter 3 (some .int) :: xG) := fun w hw => List.mem_cons_of_mem _ hw
  refine xrun_sound (nst := 0) (isInit := false) (kd := kdX5) X (xcls_mono hT xclsG) (xpool_mono hT plX5) (fun z => by cases z) (fun idx v hf => xkoE_mono hT (koX5_ok _ (xfind_mem hf))) (xents (ca := _) ?_) (endI hE).1 (endI hE).2 (xcuts (cu := _) ?_) pr_X5_saysAfter.1 pr_X5_saysAfter.2 _ _ _ _ _ _ _ _ (xat_ok pr_X5_saysAfter.1 pr_X5_saysAfter.2).1 (xat_ok pr_X5_saysAfter.1 pr_X5_saysAfter.2).2.1 (xat_ok pr_X5_saysAfter.1 pr_X5_saysAfter.2).2.2 h
  · exact (List.forall_mem_cons.mpr ⟨(xent_met X (ci := 3) hT cd_X3_saysAt lk_X5_116 rfl (by decide) rfl (by decide +kernel) (fun z => absurd z (by decide)) (hw_X3_saysAt l D cA sA fu 0) (fun _ => ⟨by decide, fun _ => ⟨TX3, 6, rfl⟩⟩) (by constructor <;> omega) (by decide)), (fun _ h => nomatch h)⟩)
  · exact (fun _ h => nomatch h)

theorem ok_X5_saysAfter (l : Launch) (D : va_G) (cA : Nat → ClassId) (sA : Nat → Nat) (fu : Nat) (s : Nat) (x1 : Int32) (x2 : Int32) (M : xM) {rr : Int32 × xM} (h : F_X5_saysAfter fu s x1 x2 M = some rr) : xMet l D cA sA yX5_saysAfter cX5_saysAfter 3 (some .int) xG (2 + 1) 0 0 [.inr (.inr (5, some s)), .inl x1, .inl x2] M (some (.inl rr.1)) rr.2 :=
  xmet_of (by decide +kernel) (Nat.le_of_ble_eq_true rfl) (fun p e s1 m ag below meth c0 A0 ad0 Z X hn hE => wx_X5_saysAfter X hn ⟨Nat.le_refl _, Nat.le_refl _⟩ hE fu s x1 x2 M h)
theorem hw_X5_saysAfter (l : Launch) (D : va_G) (cA : Nat → ClassId) (sA : Nat → Nat) (fu : Nat) {ρ : Type} {r0 : ρ} (kd1 : Nat) : ∀ (as : List xV) (M : xM) (k : Option xV → xM → Option ρ), w_X5_saysAfter fu as M k = some r0 → ∃ v M', xMet l D cA sA yX5_saysAfter cX5_saysAfter 3 (some .int) xG (2 + 1) 0 0 as M v M' ∧ k v M' = some r0 ∧ (kd1 ≠ 2 → ∃ a as', as = .inr (.inr (5, some a)) :: as') := by
  intro as M k h
  unfold w_X5_saysAfter at h
  replace h := pR_some h
  obtain ⟨o, as1, rfl, h⟩ := h
  replace h := bd_some h
  obtain ⟨s, rfl, h⟩ := h
  replace h := pI_some h
  obtain ⟨x1, as1, rfl, h⟩ := h
  replace h := pI_some h
  obtain ⟨x2, as1, rfl, h⟩ := h
  replace h := xe_some h
  obtain ⟨rfl, h⟩ := h
  obtain ⟨p1, hp, h⟩ := Option.bind_eq_some_iff.mp h
  exact ⟨_, _, ok_X5_saysAfter l D cA sA fu s x1 x2 M hp, h, fun _ => ⟨_, _, rfl⟩⟩
theorem lk_X11_207 : xLink xG RX11 207 0 yX5_run 2 := ⟨Or.inl (xg 1179 (by decide +kernel) (by decide +kernel)), (xg 1180 (by decide +kernel) (by decide +kernel)), (xg 1181 (by decide +kernel) (by decide +kernel)), (xg 138 (by decide +kernel) (by decide +kernel)), ⟨5, by decide, TX5, 7, rfl⟩⟩
theorem lk_X11_213 : xLink xG RX11 213 0 yX7_isPage 2 := ⟨Or.inl (xg 1215 (by decide +kernel) (by decide +kernel)), (xg 990 (by decide +kernel) (by decide +kernel)), (xg 991 (by decide +kernel) (by decide +kernel)), (xg 130 (by decide +kernel) (by decide +kernel)), ⟨7, by decide, TX7, 9, rfl⟩⟩
theorem lk_X11_282 : xLink xG RX11 282 0 yX5_saysAfter 2 := ⟨Or.inl (xg 1335 (by decide +kernel) (by decide +kernel)), (xg 1336 (by decide +kernel) (by decide +kernel)), (xg 1337 (by decide +kernel) (by decide +kernel)), (xg 138 (by decide +kernel) (by decide +kernel)), ⟨5, by decide, TX5, 7, rfl⟩⟩
theorem cd_X11_after : Cond.code yX11_after cX11_after 4 (some .int) ∈ xG := (xg 1334 (by decide +kernel) (by decide +kernel))
theorem pr_X11_after : (∀ e ∈ pX11_after, xrow cX11_after 4 kdX11 flX11 0 false RX11 e) ∧ xnext pX11_after = true := xrows (by decide +kernel)
set_option maxRecDepth 100000 in
theorem wx_X11_after (X : xCtx p R S0 m ag c0 D cA A0 sA 4 cX11_after RX11 (.code yX11_after cX11_after 4 (some .int) :: xG) 0 0) (hi : meth.name = yX11_after.name) (hroom : 12 + 2 ≤ R.frames ∧ 60 * (12 + 2) ≤ R.locals) {rr : Int32 × xM} (hE : xEnd l D cA sA cX11_after 4 (some .int) R 0 0 (some (.inl rr.1)) rr.2 p e S0 m ag below meth c0 A0 M0 ad0 Z) (fu : Nat) (s : Nat) (x1 : Int32) (x2 : Int32) (x3 : Int32) (M : xM) (h : F_X11_after fu s x1 x2 x3 M = some rr) : xWx p l e R S0 m ag below meth c0 D cA A0 sA M0 ad0 4 Z 0 0 0 0 0 [(0, .inr (.inr (11, some s))), (1, .inl x1), (2, .inl x2), (3, .inl x3)] [] M := by
  rw [← q_X11_after fu s x1 x2 x3 M] at h
  have hT : ∀ w ∈ xG, w ∈ (Cond.code yX11_after cX11_after 4 (some .int) :: xG) := fun w hw => List.mem_cons_of_mem _ hw
  refine xrun_sound (nst := 0) (isInit := false) (kd := kdX11) X (xcls_mono hT xclsG) (xpool_mono hT plX11) (fun z => by cases z) (fun idx v hf => xkoE_mono hT (koX11_ok _ (xfind_mem hf))) (xents (ca := _) ?_) (endI hE).1 (endI hE).2 (xcuts (cu := _) ?_) pr_X11_after.1 pr_X11_after.2 _ _ _ _ _ _ _ _ (xat_ok pr_X11_after.1 pr_X11_after.2).1 (xat_ok pr_X11_after.1 pr_X11_after.2).2.1 (xat_ok pr_X11_after.1 pr_X11_after.2).2.2 h
  · exact (List.forall_mem_cons.mpr ⟨(xent_met X (ci := 5) hT cd_X5_run lk_X11_207 rfl (by decide) rfl (by decide +kernel) (fun z => absurd z (by decide)) (hw_X5_run l D cA sA fu 0) (fun _ => ⟨by decide, fun _ => ⟨TX5, 7, rfl⟩⟩) (by constructor <;> omega) (by decide)), (List.forall_mem_cons.mpr ⟨(xent_met X (ci := 7) hT cd_X7_isPage lk_X11_213 rfl (by decide) rfl (by decide +kernel) (fun z => absurd z (by decide)) (hw_X7_isPage l D cA sA fu 0) (fun _ => ⟨by decide, fun _ => ⟨TX7, 9, rfl⟩⟩) (by constructor <;> omega) (by decide)), (List.forall_mem_cons.mpr ⟨(xent_met X (ci := 5) hT cd_X5_saysAfter lk_X11_282 rfl (by decide) rfl (by decide +kernel) (fun z => absurd z (by decide)) (hw_X5_saysAfter l D cA sA fu 0) (fun _ => ⟨by decide, fun _ => ⟨TX5, 7, rfl⟩⟩) (by constructor <;> omega) (by decide)), (fun _ h => nomatch h)⟩)⟩)⟩)
  · exact (fun _ h => nomatch h)

theorem ok_X11_after (l : Launch) (D : va_G) (cA : Nat → ClassId) (sA : Nat → Nat) (fu : Nat) (s : Nat) (x1 : Int32) (x2 : Int32) (x3 : Int32) (M : xM) {rr : Int32 × xM} (h : F_X11_after fu s x1 x2 x3 M = some rr) : xMet l D cA sA yX11_after cX11_after 4 (some .int) xG (12 + 1) 0 0 [.inr (.inr (11, some s)), .inl x1, .inl x2, .inl x3] M (some (.inl rr.1)) rr.2 :=
  xmet_of (by decide +kernel) (Nat.le_of_ble_eq_true rfl) (fun p e s1 m ag below meth c0 A0 ad0 Z X hn hE => wx_X11_after X hn ⟨Nat.le_refl _, Nat.le_refl _⟩ hE fu s x1 x2 x3 M h)
theorem hw_X11_after (l : Launch) (D : va_G) (cA : Nat → ClassId) (sA : Nat → Nat) (fu : Nat) {ρ : Type} {r0 : ρ} (kd1 : Nat) : ∀ (as : List xV) (M : xM) (k : Option xV → xM → Option ρ), w_X11_after fu as M k = some r0 → ∃ v M', xMet l D cA sA yX11_after cX11_after 4 (some .int) xG (12 + 1) 0 0 as M v M' ∧ k v M' = some r0 ∧ (kd1 ≠ 2 → ∃ a as', as = .inr (.inr (11, some a)) :: as') := by
  intro as M k h
  unfold w_X11_after at h
  replace h := pR_some h
  obtain ⟨o, as1, rfl, h⟩ := h
  replace h := bd_some h
  obtain ⟨s, rfl, h⟩ := h
  replace h := pI_some h
  obtain ⟨x1, as1, rfl, h⟩ := h
  replace h := pI_some h
  obtain ⟨x2, as1, rfl, h⟩ := h
  replace h := pI_some h
  obtain ⟨x3, as1, rfl, h⟩ := h
  replace h := xe_some h
  obtain ⟨rfl, h⟩ := h
  obtain ⟨p1, hp, h⟩ := Option.bind_eq_some_iff.mp h
  exact ⟨_, _, ok_X11_after l D cA sA fu s x1 x2 x3 M hp, h, fun _ => ⟨_, _, rfl⟩⟩
theorem lk_X2_71 : xLink xG RX2 71 0 yX0_copyFrom 1 := ⟨Or.inl (xg 1257 (by decide +kernel) (by decide +kernel)), (xg 1258 (by decide +kernel) (by decide +kernel)), (xg 1259 (by decide +kernel) (by decide +kernel)), (xg 135 (by decide +kernel) (by decide +kernel)), ⟨0, by decide, TX0, 16, rfl⟩⟩
theorem cd_X2_copyFrom : Cond.code yX2_copyFrom cX2_copyFrom 2 none ∈ xG := (xg 1256 (by decide +kernel) (by decide +kernel))
theorem pr_X2_copyFrom : (∀ e ∈ pX2_copyFrom, xrow cX2_copyFrom 2 kdX2 flX2 0 false RX2 e) ∧ xnext pX2_copyFrom = true := xrows (by decide +kernel)
set_option maxRecDepth 100000 in
theorem wx_X2_copyFrom (X : xCtx p R S0 m ag c0 D cA A0 sA 2 cX2_copyFrom RX2 (.code yX2_copyFrom cX2_copyFrom 2 none :: xG) 0 0) (hi : meth.name = yX2_copyFrom.name) (hroom : 1 + 2 ≤ R.frames ∧ 60 * (1 + 2) ≤ R.locals) {rr : xM} (hE : xEnd l D cA sA cX2_copyFrom 2 none R 0 0 none rr p e S0 m ag below meth c0 A0 M0 ad0 Z) (fu : Nat) (s : Nat) (x1 : Option Nat) (M : xM) (h : F_X2_copyFrom fu s x1 M = some rr) : xWx p l e R S0 m ag below meth c0 D cA A0 sA M0 ad0 2 Z 0 0 0 0 0 [(0, .inr (.inr (2, some s))), (1, .inr (.inr (2, x1)))] [] M := by
  rw [← q_X2_copyFrom fu s x1 M] at h
  have hT : ∀ w ∈ xG, w ∈ (Cond.code yX2_copyFrom cX2_copyFrom 2 none :: xG) := fun w hw => List.mem_cons_of_mem _ hw
  refine xrun_sound (nst := 0) (isInit := false) (kd := kdX2) X (xcls_mono hT xclsG) (xpool_mono hT plX2) (fun z => by cases z) (fun idx v hf => xkoE_mono hT (koX2_ok _ (xfind_mem hf))) (xents (ca := _) ?_) (endV hE).1 (endV hE).2 (xcuts (cu := _) ?_) pr_X2_copyFrom.1 pr_X2_copyFrom.2 _ _ _ _ _ _ _ _ (xat_ok pr_X2_copyFrom.1 pr_X2_copyFrom.2).1 (xat_ok pr_X2_copyFrom.1 pr_X2_copyFrom.2).2.1 (xat_ok pr_X2_copyFrom.1 pr_X2_copyFrom.2).2.2 h
  · exact (List.forall_mem_cons.mpr ⟨(xent_met X (ci := 0) hT cd_X0_copyFrom lk_X2_71 rfl (by decide) rfl (by decide +kernel) (fun z => absurd z (by decide)) (hw_X0_copyFrom l D cA sA fu 0) (fun _ => ⟨by decide, fun _ => ⟨TX0, 16, rfl⟩⟩) (by constructor <;> omega) (by decide)), (List.forall_mem_cons.mpr ⟨(xent_arraycopy X hT (xg 1166 (by decide +kernel) (by decide +kernel)) (xg 1063 (by decide +kernel) (by decide +kernel)) (xg 1062 (by decide +kernel) (by decide +kernel)) (xg 147 (by decide +kernel) (by decide +kernel)) rfl), (fun _ h => nomatch h)⟩)⟩)
  · exact (fun _ h => nomatch h)

theorem ok_X2_copyFrom (l : Launch) (D : va_G) (cA : Nat → ClassId) (sA : Nat → Nat) (fu : Nat) (s : Nat) (x1 : Option Nat) (M : xM) {rr : xM} (h : F_X2_copyFrom fu s x1 M = some rr) : xMet l D cA sA yX2_copyFrom cX2_copyFrom 2 none xG (1 + 1) 0 0 [.inr (.inr (2, some s)), .inr (.inr (2, x1))] M none rr :=
  xmet_of (by decide +kernel) (Nat.le_of_ble_eq_true rfl) (fun p e s1 m ag below meth c0 A0 ad0 Z X hn hE => wx_X2_copyFrom X hn ⟨Nat.le_refl _, Nat.le_refl _⟩ hE fu s x1 M h)
theorem hw_X2_copyFrom (l : Launch) (D : va_G) (cA : Nat → ClassId) (sA : Nat → Nat) (fu : Nat) {ρ : Type} {r0 : ρ} (kd1 : Nat) : ∀ (as : List xV) (M : xM) (k : Option xV → xM → Option ρ), w_X2_copyFrom fu as M k = some r0 → ∃ v M', xMet l D cA sA yX2_copyFrom cX2_copyFrom 2 none xG (1 + 1) 0 0 as M v M' ∧ k v M' = some r0 ∧ (kd1 ≠ 2 → ∃ a as', as = .inr (.inr (2, some a)) :: as') := by
  intro as M k h
  unfold w_X2_copyFrom at h
  replace h := pR_some h
  obtain ⟨o, as1, rfl, h⟩ := h
  replace h := bd_some h
  obtain ⟨s, rfl, h⟩ := h
  replace h := pR_some h
  obtain ⟨x1, as1, rfl, h⟩ := h
  replace h := xe_some h
  obtain ⟨rfl, h⟩ := h
  obtain ⟨p1, hp, h⟩ := Option.bind_eq_some_iff.mp h
  exact ⟨_, _, ok_X2_copyFrom l D cA sA fu s x1 M hp, h, fun _ => ⟨_, _, rfl⟩⟩
theorem lk_X11_249 : xLink xG RX11 249 0 yX2_copyFrom 1 := ⟨Or.inl (xg 1253 (by decide +kernel) (by decide +kernel)), (xg 1254 (by decide +kernel) (by decide +kernel)), (xg 1255 (by decide +kernel) (by decide +kernel)), (xg 134 (by decide +kernel) (by decide +kernel)), ⟨2, by decide, TX2, 16, rfl⟩⟩
theorem cd_X11_tryFromNow : Cond.code yX11_tryFromNow cX11_tryFromNow 1 none ∈ xG := (xg 1252 (by decide +kernel) (by decide +kernel))
theorem pr_X11_tryFromNow : (∀ e ∈ pX11_tryFromNow, xrow cX11_tryFromNow 1 kdX11 flX11 0 false RX11 e) ∧ xnext pX11_tryFromNow = true := xrows (by decide +kernel)
set_option maxRecDepth 100000 in
theorem wx_X11_tryFromNow (X : xCtx p R S0 m ag c0 D cA A0 sA 1 cX11_tryFromNow RX11 (.code yX11_tryFromNow cX11_tryFromNow 1 none :: xG) 0 0) (hi : meth.name = yX11_tryFromNow.name) (hroom : 2 + 2 ≤ R.frames ∧ 60 * (2 + 2) ≤ R.locals) {rr : xM} (hE : xEnd l D cA sA cX11_tryFromNow 1 none R 0 0 none rr p e S0 m ag below meth c0 A0 M0 ad0 Z) (fu : Nat) (s : Nat) (M : xM) (h : F_X11_tryFromNow fu s M = some rr) : xWx p l e R S0 m ag below meth c0 D cA A0 sA M0 ad0 1 Z 0 0 0 0 0 [(0, .inr (.inr (11, some s)))] [] M := by
  rw [← q_X11_tryFromNow fu s M] at h
  have hT : ∀ w ∈ xG, w ∈ (Cond.code yX11_tryFromNow cX11_tryFromNow 1 none :: xG) := fun w hw => List.mem_cons_of_mem _ hw
  refine xrun_sound (nst := 0) (isInit := false) (kd := kdX11) X (xcls_mono hT xclsG) (xpool_mono hT plX11) (fun z => by cases z) (fun idx v hf => xkoE_mono hT (koX11_ok _ (xfind_mem hf))) (xents (ca := _) ?_) (endV hE).1 (endV hE).2 (xcuts (cu := _) ?_) pr_X11_tryFromNow.1 pr_X11_tryFromNow.2 _ _ _ _ _ _ _ _ (xat_ok pr_X11_tryFromNow.1 pr_X11_tryFromNow.2).1 (xat_ok pr_X11_tryFromNow.1 pr_X11_tryFromNow.2).2.1 (xat_ok pr_X11_tryFromNow.1 pr_X11_tryFromNow.2).2.2 h
  · exact (List.forall_mem_cons.mpr ⟨(xent_met X (ci := 2) hT cd_X2_copyFrom lk_X11_249 rfl (by decide) rfl (by decide +kernel) (fun z => absurd z (by decide)) (hw_X2_copyFrom l D cA sA fu 0) (fun _ => ⟨by decide, fun _ => ⟨TX2, 16, rfl⟩⟩) (by constructor <;> omega) (by decide)), (fun _ h => nomatch h)⟩)
  · exact (fun _ h => nomatch h)

theorem ok_X11_tryFromNow (l : Launch) (D : va_G) (cA : Nat → ClassId) (sA : Nat → Nat) (fu : Nat) (s : Nat) (M : xM) {rr : xM} (h : F_X11_tryFromNow fu s M = some rr) : xMet l D cA sA yX11_tryFromNow cX11_tryFromNow 1 none xG (2 + 1) 0 0 [.inr (.inr (11, some s))] M none rr :=
  xmet_of (by decide +kernel) (Nat.le_of_ble_eq_true rfl) (fun p e s1 m ag below meth c0 A0 ad0 Z X hn hE => wx_X11_tryFromNow X hn ⟨Nat.le_refl _, Nat.le_refl _⟩ hE fu s M h)
theorem hw_X11_tryFromNow (l : Launch) (D : va_G) (cA : Nat → ClassId) (sA : Nat → Nat) (fu : Nat) {ρ : Type} {r0 : ρ} (kd1 : Nat) : ∀ (as : List xV) (M : xM) (k : Option xV → xM → Option ρ), w_X11_tryFromNow fu as M k = some r0 → ∃ v M', xMet l D cA sA yX11_tryFromNow cX11_tryFromNow 1 none xG (2 + 1) 0 0 as M v M' ∧ k v M' = some r0 ∧ (kd1 ≠ 2 → ∃ a as', as = .inr (.inr (11, some a)) :: as') := by
  intro as M k h
  unfold w_X11_tryFromNow at h
  replace h := pR_some h
  obtain ⟨o, as1, rfl, h⟩ := h
  replace h := bd_some h
  obtain ⟨s, rfl, h⟩ := h
  replace h := xe_some h
  obtain ⟨rfl, h⟩ := h
  obtain ⟨p1, hp, h⟩ := Option.bind_eq_some_iff.mp h
  exact ⟨_, _, ok_X11_tryFromNow l D cA sA fu s M hp, h, fun _ => ⟨_, _, rfl⟩⟩
theorem cd_X6_drawBelow : Cond.code yX6_drawBelow cX6_drawBelow 2 (some .int) ∈ xG := (xg 1402 (by decide +kernel) (by decide +kernel))
theorem pr_X6_drawBelow : (∀ e ∈ pX6_drawBelow, xrow cX6_drawBelow 2 kdX6 flX6 23 false RX6 e) ∧ xnext pX6_drawBelow = true := xrows (by decide +kernel)
set_option maxRecDepth 100000 in
theorem wx_X6_drawBelow (X : xCtx p R S0 m ag c0 D cA A0 sA 2 cX6_drawBelow RX6 (.code yX6_drawBelow cX6_drawBelow 2 (some .int) :: xG) 0 0) (hi : meth.name = yX6_drawBelow.name) (hroom : 0 + 2 ≤ R.frames ∧ 60 * (0 + 2) ≤ R.locals) {rr : Int32 × xM} (hE : xEnd l D cA sA cX6_drawBelow 2 (some .int) R 0 0 (some (.inl rr.1)) rr.2 p e S0 m ag below meth c0 A0 M0 ad0 Z) (fu : Nat) (s : Nat) (x1 : Int32) (M : xM) (h : F_X6_drawBelow fu s x1 M = some rr) : xWx p l e R S0 m ag below meth c0 D cA A0 sA M0 ad0 2 Z 0 0 0 0 0 [(0, .inr (.inr (6, some s))), (1, .inl x1)] [] M := by
  rw [← q_X6_drawBelow fu s x1 M] at h
  have hT : ∀ w ∈ xG, w ∈ (Cond.code yX6_drawBelow cX6_drawBelow 2 (some .int) :: xG) := fun w hw => List.mem_cons_of_mem _ hw
  refine xrun_sound (nst := 23) (isInit := false) (kd := kdX6) X (xcls_mono hT xclsG) (xpool_mono hT plX6) (fun z => by cases z) (fun idx v hf => xkoE_mono hT (koX6_ok _ (xfind_mem hf))) (xents (ca := _) ?_) (endI hE).1 (endI hE).2 (xcuts (cu := _) ?_) pr_X6_drawBelow.1 pr_X6_drawBelow.2 _ _ _ _ _ _ _ _ (xat_ok pr_X6_drawBelow.1 pr_X6_drawBelow.2).1 (xat_ok pr_X6_drawBelow.1 pr_X6_drawBelow.2).2.1 (xat_ok pr_X6_drawBelow.1 pr_X6_drawBelow.2).2.2 h
  · exact (fun _ h => nomatch h)
  · exact (fun _ h => nomatch h)

theorem ok_X6_drawBelow (l : Launch) (D : va_G) (cA : Nat → ClassId) (sA : Nat → Nat) (fu : Nat) (s : Nat) (x1 : Int32) (M : xM) {rr : Int32 × xM} (h : F_X6_drawBelow fu s x1 M = some rr) : xMet l D cA sA yX6_drawBelow cX6_drawBelow 2 (some .int) xG (0 + 1) 0 0 [.inr (.inr (6, some s)), .inl x1] M (some (.inl rr.1)) rr.2 :=
  xmet_of (by decide +kernel) (Nat.le_of_ble_eq_true rfl) (fun p e s1 m ag below meth c0 A0 ad0 Z X hn hE => wx_X6_drawBelow X hn ⟨Nat.le_refl _, Nat.le_refl _⟩ hE fu s x1 M h)
theorem hw_X6_drawBelow (l : Launch) (D : va_G) (cA : Nat → ClassId) (sA : Nat → Nat) (fu : Nat) {ρ : Type} {r0 : ρ} (kd1 : Nat) : ∀ (as : List xV) (M : xM) (k : Option xV → xM → Option ρ), w_X6_drawBelow fu as M k = some r0 → ∃ v M', xMet l D cA sA yX6_drawBelow cX6_drawBelow 2 (some .int) xG (0 + 1) 0 0 as M v M' ∧ k v M' = some r0 ∧ (kd1 ≠ 2 → ∃ a as', as = .inr (.inr (6, some a)) :: as') := by
  intro as M k h
  unfold w_X6_drawBelow at h
  replace h := pR_some h
  obtain ⟨o, as1, rfl, h⟩ := h
  replace h := bd_some h
  obtain ⟨s, rfl, h⟩ := h
  replace h := pI_some h
  obtain ⟨x1, as1, rfl, h⟩ := h
  replace h := xe_some h
  obtain ⟨rfl, h⟩ := h
  obtain ⟨p1, hp, h⟩ := Option.bind_eq_some_iff.mp h
  exact ⟨_, _, ok_X6_drawBelow l D cA sA fu s x1 M hp, h, fun _ => ⟨_, _, rfl⟩⟩
theorem cd_X2_isOpen : Cond.code yX2_isOpen cX2_isOpen 2 (some .boolean) ∈ xG := (xg 972 (by decide +kernel) (by decide +kernel))
theorem pr_X2_isOpen : (∀ e ∈ pX2_isOpen, xrow cX2_isOpen 2 kdX2 flX2 0 false RX2 e) ∧ xnext pX2_isOpen = true := xrows (by decide +kernel)
set_option maxRecDepth 100000 in
theorem wx_X2_isOpen (X : xCtx p R S0 m ag c0 D cA A0 sA 2 cX2_isOpen RX2 (.code yX2_isOpen cX2_isOpen 2 (some .boolean) :: xG) 0 0) (hi : meth.name = yX2_isOpen.name) (hroom : 0 + 2 ≤ R.frames ∧ 60 * (0 + 2) ≤ R.locals) {rr : Int32 × xM} (hE : xEnd l D cA sA cX2_isOpen 2 (some .boolean) R 0 0 (some (.inl rr.1)) rr.2 p e S0 m ag below meth c0 A0 M0 ad0 Z) (fu : Nat) (s : Nat) (x1 : Int32) (M : xM) (h : F_X2_isOpen fu s x1 M = some rr) : xWx p l e R S0 m ag below meth c0 D cA A0 sA M0 ad0 2 Z 0 0 0 0 0 [(0, .inr (.inr (2, some s))), (1, .inl x1)] [] M := by
  rw [← q_X2_isOpen fu s x1 M] at h
  have hT : ∀ w ∈ xG, w ∈ (Cond.code yX2_isOpen cX2_isOpen 2 (some .boolean) :: xG) := fun w hw => List.mem_cons_of_mem _ hw
  refine xrun_sound (nst := 0) (isInit := false) (kd := kdX2) X (xcls_mono hT xclsG) (xpool_mono hT plX2) (fun z => by cases z) (fun idx v hf => xkoE_mono hT (koX2_ok _ (xfind_mem hf))) (xents (ca := _) ?_) (endZ hE).1 (endZ hE).2 (xcuts (cu := _) ?_) pr_X2_isOpen.1 pr_X2_isOpen.2 _ _ _ _ _ _ _ _ (xat_ok pr_X2_isOpen.1 pr_X2_isOpen.2).1 (xat_ok pr_X2_isOpen.1 pr_X2_isOpen.2).2.1 (xat_ok pr_X2_isOpen.1 pr_X2_isOpen.2).2.2 h
  · exact (fun _ h => nomatch h)
  · exact (fun _ h => nomatch h)

theorem ok_X2_isOpen (l : Launch) (D : va_G) (cA : Nat → ClassId) (sA : Nat → Nat) (fu : Nat) (s : Nat) (x1 : Int32) (M : xM) {rr : Int32 × xM} (h : F_X2_isOpen fu s x1 M = some rr) : xMet l D cA sA yX2_isOpen cX2_isOpen 2 (some .boolean) xG (0 + 1) 0 0 [.inr (.inr (2, some s)), .inl x1] M (some (.inl rr.1)) rr.2 :=
  xmet_of (by decide +kernel) (Nat.le_of_ble_eq_true rfl) (fun p e s1 m ag below meth c0 A0 ad0 Z X hn hE => wx_X2_isOpen X hn ⟨Nat.le_refl _, Nat.le_refl _⟩ hE fu s x1 M h)
theorem hw_X2_isOpen (l : Launch) (D : va_G) (cA : Nat → ClassId) (sA : Nat → Nat) (fu : Nat) {ρ : Type} {r0 : ρ} (kd1 : Nat) : ∀ (as : List xV) (M : xM) (k : Option xV → xM → Option ρ), w_X2_isOpen fu as M k = some r0 → ∃ v M', xMet l D cA sA yX2_isOpen cX2_isOpen 2 (some .boolean) xG (0 + 1) 0 0 as M v M' ∧ k v M' = some r0 ∧ (kd1 ≠ 2 → ∃ a as', as = .inr (.inr (2, some a)) :: as') := by
  intro as M k h
  unfold w_X2_isOpen at h
  replace h := pR_some h
  obtain ⟨o, as1, rfl, h⟩ := h
  replace h := bd_some h
  obtain ⟨s, rfl, h⟩ := h
  replace h := pI_some h
  obtain ⟨x1, as1, rfl, h⟩ := h
  replace h := xe_some h
  obtain ⟨rfl, h⟩ := h
  obtain ⟨p1, hp, h⟩ := Option.bind_eq_some_iff.mp h
  exact ⟨_, _, ok_X2_isOpen l D cA sA fu s x1 M hp, h, fun _ => ⟨_, _, rfl⟩⟩
theorem cd_X6_actOf : Cond.code yX6_actOf cX6_actOf 2 (some .int) ∈ xG := (xg 1410 (by decide +kernel) (by decide +kernel))
theorem pr_X6_actOf : (∀ e ∈ pX6_actOf, xrow cX6_actOf 2 kdX6 flX6 23 false RX6 e) ∧ xnext pX6_actOf = true := xrows (by decide +kernel)
set_option maxRecDepth 100000 in
theorem wx_X6_actOf (X : xCtx p R S0 m ag c0 D cA A0 sA 2 cX6_actOf RX6 (.code yX6_actOf cX6_actOf 2 (some .int) :: xG) 0 0) (hi : meth.name = yX6_actOf.name) (hroom : 0 + 2 ≤ R.frames ∧ 60 * (0 + 2) ≤ R.locals) {rr : Int32 × xM} (hE : xEnd l D cA sA cX6_actOf 2 (some .int) R 0 0 (some (.inl rr.1)) rr.2 p e S0 m ag below meth c0 A0 M0 ad0 Z) (fu : Nat) (x0 : Int32) (x1 : Int32) (M : xM) (h : F_X6_actOf fu x0 x1 M = some rr) : xWx p l e R S0 m ag below meth c0 D cA A0 sA M0 ad0 2 Z 0 0 0 0 0 [(0, .inl x0), (1, .inl x1)] [] M := by
  rw [← q_X6_actOf fu x0 x1 M] at h
  have hT : ∀ w ∈ xG, w ∈ (Cond.code yX6_actOf cX6_actOf 2 (some .int) :: xG) := fun w hw => List.mem_cons_of_mem _ hw
  refine xrun_sound (nst := 23) (isInit := false) (kd := kdX6) X (xcls_mono hT xclsG) (xpool_mono hT plX6) (fun z => by cases z) (fun idx v hf => xkoE_mono hT (koX6_ok _ (xfind_mem hf))) (xents (ca := _) ?_) (endI hE).1 (endI hE).2 (xcuts (cu := _) ?_) pr_X6_actOf.1 pr_X6_actOf.2 _ _ _ _ _ _ _ _ (xat_ok pr_X6_actOf.1 pr_X6_actOf.2).1 (xat_ok pr_X6_actOf.1 pr_X6_actOf.2).2.1 (xat_ok pr_X6_actOf.1 pr_X6_actOf.2).2.2 h
  · exact (fun _ h => nomatch h)
  · exact (fun _ h => nomatch h)

theorem ok_X6_actOf (l : Launch) (D : va_G) (cA : Nat → ClassId) (sA : Nat → Nat) (fu : Nat) (x0 : Int32) (x1 : Int32) (M : xM) {rr : Int32 × xM} (h : F_X6_actOf fu x0 x1 M = some rr) : xMet l D cA sA yX6_actOf cX6_actOf 2 (some .int) xG (0 + 1) 0 0 [.inl x0, .inl x1] M (some (.inl rr.1)) rr.2 :=
  xmet_of (by decide +kernel) (Nat.le_of_ble_eq_true rfl) (fun p e s1 m ag below meth c0 A0 ad0 Z X hn hE => wx_X6_actOf X hn ⟨Nat.le_refl _, Nat.le_refl _⟩ hE fu x0 x1 M h)
theorem hw_X6_actOf (l : Launch) (D : va_G) (cA : Nat → ClassId) (sA : Nat → Nat) (fu : Nat) {ρ : Type} {r0 : ρ} (kd1 : Nat) (hk2 : kd1 = 2) : ∀ (as : List xV) (M : xM) (k : Option xV → xM → Option ρ), w_X6_actOf fu as M k = some r0 → ∃ v M', xMet l D cA sA yX6_actOf cX6_actOf 2 (some .int) xG (0 + 1) 0 0 as M v M' ∧ k v M' = some r0 ∧ (kd1 ≠ 2 → ∃ a as', as = .inr (.inr (6, some a)) :: as') := by
  intro as M k h
  unfold w_X6_actOf at h
  replace h := pI_some h
  obtain ⟨x0, as1, rfl, h⟩ := h
  replace h := pI_some h
  obtain ⟨x1, as1, rfl, h⟩ := h
  replace h := xe_some h
  obtain ⟨rfl, h⟩ := h
  obtain ⟨p1, hp, h⟩ := Option.bind_eq_some_iff.mp h
  exact ⟨_, _, ok_X6_actOf l D cA sA fu x0 x1 M hp, h, fun z => absurd hk2 z⟩
theorem lk_X6_39 : xLink xG RX6 39 0 yX2_isOpen 1 := ⟨Or.inl (xg 1407 (by decide +kernel) (by decide +kernel)), (xg 970 (by decide +kernel) (by decide +kernel)), (xg 971 (by decide +kernel) (by decide +kernel)), (xg 134 (by decide +kernel) (by decide +kernel)), ⟨2, by decide, TX2, 16, rfl⟩⟩
theorem lk_X6_43 : xLink xG RX6 43 2 yX6_actOf 2 := ⟨(xg 1408 (by decide +kernel) (by decide +kernel)), (xg 1409 (by decide +kernel) (by decide +kernel)), (xg 140 (by decide +kernel) (by decide +kernel))⟩
theorem lk_X6_47 : xLink xG RX6 47 0 yX2_act 4 := ⟨Or.inl (xg 1411 (by decide +kernel) (by decide +kernel)), (xg 1191 (by decide +kernel) (by decide +kernel)), (xg 1192 (by decide +kernel) (by decide +kernel)), (xg 134 (by decide +kernel) (by decide +kernel)), ⟨2, by decide, TX2, 16, rfl⟩⟩
theorem lk_X6_35 : xLink xG RX6 35 0 yX6_drawBelow 1 := ⟨Or.inl (xg 1399 (by decide +kernel) (by decide +kernel)), (xg 1401 (by decide +kernel) (by decide +kernel)), (xg 38 (by decide +kernel) (by decide +kernel)), (xg 140 (by decide +kernel) (by decide +kernel)), ⟨6, by decide, TX6, 1, rfl⟩⟩
theorem cd_X6_run : Cond.code yX6_run cX6_run 11 (some .int) ∈ xG := (xg 1398 (by decide +kernel) (by decide +kernel))
theorem pr_X6_run : (∀ e ∈ pX6_run, xrow cX6_run 11 kdX6 flX6 23 false RX6 e) ∧ xnext pX6_run = true := xrows (by decide +kernel)
set_option maxRecDepth 100000 in
theorem wx_X6_run_93 (X : xCtx p R S0 m ag c0 D cA A0 sA 11 cX6_run RX6 (.code yX6_run cX6_run 11 (some .int) :: xG) 0 0) (hi : meth.name = yX6_run.name) (hroom : 11 + 2 ≤ R.frames ∧ 60 * (11 + 2) ≤ R.locals) {rr : Int32 × xM} (hE : xEnd l D cA sA cX6_run 11 (some .int) R 0 0 (some (.inl rr.1)) rr.2 p e S0 m ag below meth c0 A0 M0 ad0 Z) (fu : Nat) (k21 : Nat → Option Nat → Int32 → Int32 → Int32 → Int32 → xM → Option (Int32 × xM)) (hk21 : ∀ (s : Nat) (x1 : Option Nat) (x3 : Int32) (x4 : Int32) (x5 : Int32) (x6 : Int32) (M : xM), k21 s x1 x3 x4 x5 x6 M = some rr → xWx p l e R S0 m ag below meth c0 D cA A0 sA M0 ad0 11 Z 0 0 21 0 0 [(0, .inr (.inr (6, some s))), (1, .inr (.inr (2, x1))), (3, .inl x3), (4, .inl x4), (5, .inl x5), (6, .inl x6)] [] M) (s : Nat) (x1 : Option Nat) (x3 : Int32) (x4 : Int32) (x5 : Int32) (x6 : Int32) (x7 : Int32) (x8 : Int32) (x9 : Int32) (y0 : Int32) (M : xM) (h : J_X6_run_93 fu k21 s x1 x3 x4 x5 x6 x7 x8 x9 y0 M = some rr) : xWx p l e R S0 m ag below meth c0 D cA A0 sA M0 ad0 11 Z 0 0 93 0 0 [(0, .inr (.inr (6, some s))), (1, .inr (.inr (2, x1))), (3, .inl x3), (4, .inl x4), (5, .inl x5), (6, .inl x6), (7, .inl x7), (8, .inl x8), (9, .inl x9)] [.inl y0] M := by
  rw [← q_X6_run_93 fu k21 s x1 x3 x4 x5 x6 x7 x8 x9 y0 M] at h
  have hT : ∀ w ∈ xG, w ∈ (Cond.code yX6_run cX6_run 11 (some .int) :: xG) := fun w hw => List.mem_cons_of_mem _ hw
  refine xrun_sound (nst := 23) (isInit := false) (kd := kdX6) X (xcls_mono hT xclsG) (xpool_mono hT plX6) (fun z => by cases z) (fun idx v hf => xkoE_mono hT (koX6_ok _ (xfind_mem hf))) (xents (ca := _) ?_) (endI hE).1 (endI hE).2 (xcuts (cu := _) ?_) pr_X6_run.1 pr_X6_run.2 _ _ _ _ _ _ _ _ (xat_ok pr_X6_run.1 pr_X6_run.2).1 (xat_ok pr_X6_run.1 pr_X6_run.2).2.1 (xat_ok pr_X6_run.1 pr_X6_run.2).2.2 h
  · exact (List.forall_mem_cons.mpr ⟨(xent_met X (ci := 2) hT cd_X2_isOpen lk_X6_39 rfl (by decide) rfl (by decide +kernel) (fun z => absurd z (by decide)) (hw_X2_isOpen l D cA sA fu 0) (fun _ => ⟨by decide, fun _ => ⟨TX2, 16, rfl⟩⟩) (by constructor <;> omega) (by decide)), (List.forall_mem_cons.mpr ⟨(xent_met X (ci := 6) hT cd_X6_actOf lk_X6_43 rfl (by decide) rfl (by decide +kernel) (fun z => absurd z (by decide)) (hw_X6_actOf l D cA sA fu 2 rfl) (fun z => absurd rfl z) (by constructor <;> omega) (by decide)), (List.forall_mem_cons.mpr ⟨(xent_met X (ci := 2) hT cd_X2_act lk_X6_47 rfl (by decide) rfl (by decide +kernel) (fun z => absurd z (by decide)) (hw_X2_act l D cA sA fu 0) (fun _ => ⟨by decide, fun _ => ⟨TX2, 16, rfl⟩⟩) (by constructor <;> omega) (by decide)), (fun _ h => nomatch h)⟩)⟩)⟩)
  · refine (List.forall_mem_cons.mpr ⟨?_, (fun _ h => nomatch h)⟩)
    · intro bc bs ls st M h
      replace h := xz_some h
      obtain ⟨rfl, rfl, h⟩ := h
      replace h := lR_some h
      obtain ⟨o, e0, h⟩ := h
      replace h := bd_some h
      obtain ⟨s', rfl, h⟩ := h
      replace h := lR_some h
      obtain ⟨x1', e1, h⟩ := h
      replace h := lI_some h
      obtain ⟨x3', e3, h⟩ := h
      replace h := lI_some h
      obtain ⟨x4', e4, h⟩ := h
      replace h := lI_some h
      obtain ⟨x5', e5, h⟩ := h
      replace h := lI_some h
      obtain ⟨x6', e6, h⟩ := h
      replace h := xe_some h
      obtain ⟨rfl, h⟩ := h
      exact xWx_ls (hk21 s' x1' x3' x4' x5' x6' M h) (List.forall_mem_cons.mpr ⟨e0, (List.forall_mem_cons.mpr ⟨e1, (List.forall_mem_cons.mpr ⟨e3, (List.forall_mem_cons.mpr ⟨e4, (List.forall_mem_cons.mpr ⟨e5, (List.forall_mem_cons.mpr ⟨e6, (fun _ h => nomatch h)⟩)⟩)⟩)⟩)⟩)⟩)

set_option maxRecDepth 100000 in
theorem wx_X6_run_74 (X : xCtx p R S0 m ag c0 D cA A0 sA 11 cX6_run RX6 (.code yX6_run cX6_run 11 (some .int) :: xG) 0 0) (hi : meth.name = yX6_run.name) (hroom : 11 + 2 ≤ R.frames ∧ 60 * (11 + 2) ≤ R.locals) {rr : Int32 × xM} (hE : xEnd l D cA sA cX6_run 11 (some .int) R 0 0 (some (.inl rr.1)) rr.2 p e S0 m ag below meth c0 A0 M0 ad0 Z) (fu : Nat) (k21 : Nat → Option Nat → Int32 → Int32 → Int32 → Int32 → xM → Option (Int32 × xM)) (hk21 : ∀ (s : Nat) (x1 : Option Nat) (x3 : Int32) (x4 : Int32) (x5 : Int32) (x6 : Int32) (M : xM), k21 s x1 x3 x4 x5 x6 M = some rr → xWx p l e R S0 m ag below meth c0 D cA A0 sA M0 ad0 11 Z 0 0 21 0 0 [(0, .inr (.inr (6, some s))), (1, .inr (.inr (2, x1))), (3, .inl x3), (4, .inl x4), (5, .inl x5), (6, .inl x6)] [] M) (s : Nat) (x1 : Option Nat) (x3 : Int32) (x4 : Int32) (x5 : Int32) (x6 : Int32) (x7 : Int32) (x8 : Int32) (y0 : Int32) (M : xM) (h : J_X6_run_74 fu k21 s x1 x3 x4 x5 x6 x7 x8 y0 M = some rr) : xWx p l e R S0 m ag below meth c0 D cA A0 sA M0 ad0 11 Z 0 0 74 0 0 [(0, .inr (.inr (6, some s))), (1, .inr (.inr (2, x1))), (3, .inl x3), (4, .inl x4), (5, .inl x5), (6, .inl x6), (7, .inl x7), (8, .inl x8)] [.inl y0] M := by
  rw [← q_X6_run_74 fu k21 s x1 x3 x4 x5 x6 x7 x8 y0 M] at h
  have hT : ∀ w ∈ xG, w ∈ (Cond.code yX6_run cX6_run 11 (some .int) :: xG) := fun w hw => List.mem_cons_of_mem _ hw
  refine xrun_sound (nst := 23) (isInit := false) (kd := kdX6) X (xcls_mono hT xclsG) (xpool_mono hT plX6) (fun z => by cases z) (fun idx v hf => xkoE_mono hT (koX6_ok _ (xfind_mem hf))) (xents (ca := _) ?_) (endI hE).1 (endI hE).2 (xcuts (cu := _) ?_) pr_X6_run.1 pr_X6_run.2 _ _ _ _ _ _ _ _ (xat_ok pr_X6_run.1 pr_X6_run.2).1 (xat_ok pr_X6_run.1 pr_X6_run.2).2.1 (xat_ok pr_X6_run.1 pr_X6_run.2).2.2 h
  · exact (List.forall_mem_cons.mpr ⟨(xent_met X (ci := 6) hT cd_X6_drawBelow lk_X6_35 rfl (by decide) rfl (by decide +kernel) (fun z => absurd z (by decide)) (hw_X6_drawBelow l D cA sA fu 0) (fun _ => ⟨by decide, fun _ => ⟨TX6, 1, rfl⟩⟩) (by constructor <;> omega) (by decide)), (fun _ h => nomatch h)⟩)
  · refine (List.forall_mem_cons.mpr ⟨?_, (fun _ h => nomatch h)⟩)
    · intro bc bs ls st M h
      replace h := xz_some h
      obtain ⟨rfl, rfl, h⟩ := h
      replace h := lR_some h
      obtain ⟨o, e0, h⟩ := h
      replace h := bd_some h
      obtain ⟨s', rfl, h⟩ := h
      replace h := lR_some h
      obtain ⟨x1', e1, h⟩ := h
      replace h := lI_some h
      obtain ⟨x3', e3, h⟩ := h
      replace h := lI_some h
      obtain ⟨x4', e4, h⟩ := h
      replace h := lI_some h
      obtain ⟨x5', e5, h⟩ := h
      replace h := lI_some h
      obtain ⟨x6', e6, h⟩ := h
      replace h := lI_some h
      obtain ⟨x7', e7, h⟩ := h
      replace h := lI_some h
      obtain ⟨x8', e8, h⟩ := h
      replace h := lI_some h
      obtain ⟨x9', e9, h⟩ := h
      replace h := pI_some h
      obtain ⟨y0', st, rfl, h⟩ := h
      replace h := xe_some h
      obtain ⟨rfl, h⟩ := h
      exact xWx_ls (wx_X6_run_93 X hi hroom hE fu k21 hk21 s' x1' x3' x4' x5' x6' x7' x8' x9' y0' M h) (List.forall_mem_cons.mpr ⟨e0, (List.forall_mem_cons.mpr ⟨e1, (List.forall_mem_cons.mpr ⟨e3, (List.forall_mem_cons.mpr ⟨e4, (List.forall_mem_cons.mpr ⟨e5, (List.forall_mem_cons.mpr ⟨e6, (List.forall_mem_cons.mpr ⟨e7, (List.forall_mem_cons.mpr ⟨e8, (List.forall_mem_cons.mpr ⟨e9, (fun _ h => nomatch h)⟩)⟩)⟩)⟩)⟩)⟩)⟩)⟩)⟩)

set_option maxRecDepth 100000 in
theorem wx_X6_run_57 (X : xCtx p R S0 m ag c0 D cA A0 sA 11 cX6_run RX6 (.code yX6_run cX6_run 11 (some .int) :: xG) 0 0) (hi : meth.name = yX6_run.name) (hroom : 11 + 2 ≤ R.frames ∧ 60 * (11 + 2) ≤ R.locals) {rr : Int32 × xM} (hE : xEnd l D cA sA cX6_run 11 (some .int) R 0 0 (some (.inl rr.1)) rr.2 p e S0 m ag below meth c0 A0 M0 ad0 Z) (fu : Nat) (k21 : Nat → Option Nat → Int32 → Int32 → Int32 → Int32 → xM → Option (Int32 × xM)) (hk21 : ∀ (s : Nat) (x1 : Option Nat) (x3 : Int32) (x4 : Int32) (x5 : Int32) (x6 : Int32) (M : xM), k21 s x1 x3 x4 x5 x6 M = some rr → xWx p l e R S0 m ag below meth c0 D cA A0 sA M0 ad0 11 Z 0 0 21 0 0 [(0, .inr (.inr (6, some s))), (1, .inr (.inr (2, x1))), (3, .inl x3), (4, .inl x4), (5, .inl x5), (6, .inl x6)] [] M) (s : Nat) (x1 : Option Nat) (x3 : Int32) (x4 : Int32) (x5 : Int32) (x6 : Int32) (x7 : Int32) (y0 : Int32) (M : xM) (h : J_X6_run_57 fu k21 s x1 x3 x4 x5 x6 x7 y0 M = some rr) : xWx p l e R S0 m ag below meth c0 D cA A0 sA M0 ad0 11 Z 0 0 57 0 0 [(0, .inr (.inr (6, some s))), (1, .inr (.inr (2, x1))), (3, .inl x3), (4, .inl x4), (5, .inl x5), (6, .inl x6), (7, .inl x7)] [.inl y0] M := by
  rw [← q_X6_run_57 fu k21 s x1 x3 x4 x5 x6 x7 y0 M] at h
  have hT : ∀ w ∈ xG, w ∈ (Cond.code yX6_run cX6_run 11 (some .int) :: xG) := fun w hw => List.mem_cons_of_mem _ hw
  refine xrun_sound (nst := 23) (isInit := false) (kd := kdX6) X (xcls_mono hT xclsG) (xpool_mono hT plX6) (fun z => by cases z) (fun idx v hf => xkoE_mono hT (koX6_ok _ (xfind_mem hf))) (xents (ca := _) ?_) (endI hE).1 (endI hE).2 (xcuts (cu := _) ?_) pr_X6_run.1 pr_X6_run.2 _ _ _ _ _ _ _ _ (xat_ok pr_X6_run.1 pr_X6_run.2).1 (xat_ok pr_X6_run.1 pr_X6_run.2).2.1 (xat_ok pr_X6_run.1 pr_X6_run.2).2.2 h
  · exact (List.forall_mem_cons.mpr ⟨(xent_met X (ci := 6) hT cd_X6_drawBelow lk_X6_35 rfl (by decide) rfl (by decide +kernel) (fun z => absurd z (by decide)) (hw_X6_drawBelow l D cA sA fu 0) (fun _ => ⟨by decide, fun _ => ⟨TX6, 1, rfl⟩⟩) (by constructor <;> omega) (by decide)), (fun _ h => nomatch h)⟩)
  · refine (List.forall_mem_cons.mpr ⟨?_, (fun _ h => nomatch h)⟩)
    · intro bc bs ls st M h
      replace h := xz_some h
      obtain ⟨rfl, rfl, h⟩ := h
      replace h := lR_some h
      obtain ⟨o, e0, h⟩ := h
      replace h := bd_some h
      obtain ⟨s', rfl, h⟩ := h
      replace h := lR_some h
      obtain ⟨x1', e1, h⟩ := h
      replace h := lI_some h
      obtain ⟨x3', e3, h⟩ := h
      replace h := lI_some h
      obtain ⟨x4', e4, h⟩ := h
      replace h := lI_some h
      obtain ⟨x5', e5, h⟩ := h
      replace h := lI_some h
      obtain ⟨x6', e6, h⟩ := h
      replace h := lI_some h
      obtain ⟨x7', e7, h⟩ := h
      replace h := lI_some h
      obtain ⟨x8', e8, h⟩ := h
      replace h := pI_some h
      obtain ⟨y0', st, rfl, h⟩ := h
      replace h := xe_some h
      obtain ⟨rfl, h⟩ := h
      exact xWx_ls (wx_X6_run_74 X hi hroom hE fu k21 hk21 s' x1' x3' x4' x5' x6' x7' x8' y0' M h) (List.forall_mem_cons.mpr ⟨e0, (List.forall_mem_cons.mpr ⟨e1, (List.forall_mem_cons.mpr ⟨e3, (List.forall_mem_cons.mpr ⟨e4, (List.forall_mem_cons.mpr ⟨e5, (List.forall_mem_cons.mpr ⟨e6, (List.forall_mem_cons.mpr ⟨e7, (List.forall_mem_cons.mpr ⟨e8, (fun _ h => nomatch h)⟩)⟩)⟩)⟩)⟩)⟩)⟩)⟩)

set_option maxRecDepth 100000 in
theorem wx_X6_run_21 (X : xCtx p R S0 m ag c0 D cA A0 sA 11 cX6_run RX6 (.code yX6_run cX6_run 11 (some .int) :: xG) 0 0) (hi : meth.name = yX6_run.name) (hroom : 11 + 2 ≤ R.frames ∧ 60 * (11 + 2) ≤ R.locals) {rr : Int32 × xM} (hE : xEnd l D cA sA cX6_run 11 (some .int) R 0 0 (some (.inl rr.1)) rr.2 p e S0 m ag below meth c0 A0 M0 ad0 Z) (fu : Nat) : ∀ (n : Nat) (s : Nat) (x1 : Option Nat) (x3 : Int32) (x4 : Int32) (x5 : Int32) (x6 : Int32) (M : xM), L_X6_run_21 fu n s x1 x3 x4 x5 x6 M = some rr → xWx p l e R S0 m ag below meth c0 D cA A0 sA M0 ad0 11 Z 0 0 21 0 0 [(0, .inr (.inr (6, some s))), (1, .inr (.inr (2, x1))), (3, .inl x3), (4, .inl x4), (5, .inl x5), (6, .inl x6)] [] M := by
  intro n
  induction n with
  | zero => intro s x1 x3 x4 x5 x6 M h; cases h
  | succ n ih =>
    intro s x1 x3 x4 x5 x6 M h
    rw [← q_X6_run_21 fu n s x1 x3 x4 x5 x6 M] at h
    have hT : ∀ w ∈ xG, w ∈ (Cond.code yX6_run cX6_run 11 (some .int) :: xG) := fun w hw => List.mem_cons_of_mem _ hw
    refine xrun_sound (nst := 23) (isInit := false) (kd := kdX6) X (xcls_mono hT xclsG) (xpool_mono hT plX6) (fun z => by cases z) (fun idx v hf => xkoE_mono hT (koX6_ok _ (xfind_mem hf))) (xents (ca := _) ?_) (endI hE).1 (endI hE).2 (xcuts (cu := _) ?_) pr_X6_run.1 pr_X6_run.2 _ _ _ _ _ _ _ _ (xat_ok pr_X6_run.1 pr_X6_run.2).1 (xat_ok pr_X6_run.1 pr_X6_run.2).2.1 (xat_ok pr_X6_run.1 pr_X6_run.2).2.2 h
    · exact (List.forall_mem_cons.mpr ⟨(xent_met X (ci := 6) hT cd_X6_drawBelow lk_X6_35 rfl (by decide) rfl (by decide +kernel) (fun z => absurd z (by decide)) (hw_X6_drawBelow l D cA sA fu 0) (fun _ => ⟨by decide, fun _ => ⟨TX6, 1, rfl⟩⟩) (by constructor <;> omega) (by decide)), (fun _ h => nomatch h)⟩)
    · refine (List.forall_mem_cons.mpr ⟨?_, (fun _ h => nomatch h)⟩)
      · intro bc bs ls st M h
        replace h := xz_some h
        obtain ⟨rfl, rfl, h⟩ := h
        replace h := lR_some h
        obtain ⟨o, e0, h⟩ := h
        replace h := bd_some h
        obtain ⟨s', rfl, h⟩ := h
        replace h := lR_some h
        obtain ⟨x1', e1, h⟩ := h
        replace h := lI_some h
        obtain ⟨x3', e3, h⟩ := h
        replace h := lI_some h
        obtain ⟨x4', e4, h⟩ := h
        replace h := lI_some h
        obtain ⟨x5', e5, h⟩ := h
        replace h := lI_some h
        obtain ⟨x6', e6, h⟩ := h
        replace h := lI_some h
        obtain ⟨x7', e7, h⟩ := h
        replace h := pI_some h
        obtain ⟨y0', st, rfl, h⟩ := h
        replace h := xe_some h
        obtain ⟨rfl, h⟩ := h
        exact xWx_ls (wx_X6_run_57 X hi hroom hE fu _ ih s' x1' x3' x4' x5' x6' x7' y0' M h) (List.forall_mem_cons.mpr ⟨e0, (List.forall_mem_cons.mpr ⟨e1, (List.forall_mem_cons.mpr ⟨e3, (List.forall_mem_cons.mpr ⟨e4, (List.forall_mem_cons.mpr ⟨e5, (List.forall_mem_cons.mpr ⟨e6, (List.forall_mem_cons.mpr ⟨e7, (fun _ h => nomatch h)⟩)⟩)⟩)⟩)⟩)⟩)⟩)

set_option maxRecDepth 100000 in
theorem wx_X6_run (X : xCtx p R S0 m ag c0 D cA A0 sA 11 cX6_run RX6 (.code yX6_run cX6_run 11 (some .int) :: xG) 0 0) (hi : meth.name = yX6_run.name) (hroom : 11 + 2 ≤ R.frames ∧ 60 * (11 + 2) ≤ R.locals) {rr : Int32 × xM} (hE : xEnd l D cA sA cX6_run 11 (some .int) R 0 0 (some (.inl rr.1)) rr.2 p e S0 m ag below meth c0 A0 M0 ad0 Z) (fu : Nat) (s : Nat) (x1 : Option Nat) (x2 : Int32) (x3 : Int32) (M : xM) (h : F_X6_run fu s x1 x2 x3 M = some rr) : xWx p l e R S0 m ag below meth c0 D cA A0 sA M0 ad0 11 Z 0 0 0 0 0 [(0, .inr (.inr (6, some s))), (1, .inr (.inr (2, x1))), (2, .inl x2), (3, .inl x3)] [] M := by
  rw [← q_X6_run fu s x1 x2 x3 M] at h
  have hT : ∀ w ∈ xG, w ∈ (Cond.code yX6_run cX6_run 11 (some .int) :: xG) := fun w hw => List.mem_cons_of_mem _ hw
  refine xrun_sound (nst := 23) (isInit := false) (kd := kdX6) X (xcls_mono hT xclsG) (xpool_mono hT plX6) (fun z => by cases z) (fun idx v hf => xkoE_mono hT (koX6_ok _ (xfind_mem hf))) (xents (ca := _) ?_) (endI hE).1 (endI hE).2 (xcuts (cu := _) ?_) pr_X6_run.1 pr_X6_run.2 _ _ _ _ _ _ _ _ (xat_ok pr_X6_run.1 pr_X6_run.2).1 (xat_ok pr_X6_run.1 pr_X6_run.2).2.1 (xat_ok pr_X6_run.1 pr_X6_run.2).2.2 h
  · exact (fun _ h => nomatch h)
  · refine (List.forall_mem_cons.mpr ⟨?_, (fun _ h => nomatch h)⟩)
    · intro bc bs ls st M h
      replace h := xz_some h
      obtain ⟨rfl, rfl, h⟩ := h
      replace h := lR_some h
      obtain ⟨o, e0, h⟩ := h
      replace h := bd_some h
      obtain ⟨s', rfl, h⟩ := h
      replace h := lR_some h
      obtain ⟨x1', e1, h⟩ := h
      replace h := lI_some h
      obtain ⟨x3', e3, h⟩ := h
      replace h := lI_some h
      obtain ⟨x4', e4, h⟩ := h
      replace h := lI_some h
      obtain ⟨x5', e5, h⟩ := h
      replace h := lI_some h
      obtain ⟨x6', e6, h⟩ := h
      replace h := xe_some h
      obtain ⟨rfl, h⟩ := h
      exact xWx_ls (wx_X6_run_21 X hi hroom hE fu fu s' x1' x3' x4' x5' x6' M h) (List.forall_mem_cons.mpr ⟨e0, (List.forall_mem_cons.mpr ⟨e1, (List.forall_mem_cons.mpr ⟨e3, (List.forall_mem_cons.mpr ⟨e4, (List.forall_mem_cons.mpr ⟨e5, (List.forall_mem_cons.mpr ⟨e6, (fun _ h => nomatch h)⟩)⟩)⟩)⟩)⟩)⟩)

theorem ok_X6_run (l : Launch) (D : va_G) (cA : Nat → ClassId) (sA : Nat → Nat) (fu : Nat) (s : Nat) (x1 : Option Nat) (x2 : Int32) (x3 : Int32) (M : xM) {rr : Int32 × xM} (h : F_X6_run fu s x1 x2 x3 M = some rr) : xMet l D cA sA yX6_run cX6_run 11 (some .int) xG (11 + 1) 0 0 [.inr (.inr (6, some s)), .inr (.inr (2, x1)), .inl x2, .inl x3] M (some (.inl rr.1)) rr.2 :=
  xmet_of (by decide +kernel) (Nat.le_of_ble_eq_true rfl) (fun p e s1 m ag below meth c0 A0 ad0 Z X hn hE => wx_X6_run X hn ⟨Nat.le_refl _, Nat.le_refl _⟩ hE fu s x1 x2 x3 M h)
theorem hw_X6_run (l : Launch) (D : va_G) (cA : Nat → ClassId) (sA : Nat → Nat) (fu : Nat) {ρ : Type} {r0 : ρ} (kd1 : Nat) : ∀ (as : List xV) (M : xM) (k : Option xV → xM → Option ρ), w_X6_run fu as M k = some r0 → ∃ v M', xMet l D cA sA yX6_run cX6_run 11 (some .int) xG (11 + 1) 0 0 as M v M' ∧ k v M' = some r0 ∧ (kd1 ≠ 2 → ∃ a as', as = .inr (.inr (6, some a)) :: as') := by
  intro as M k h
  unfold w_X6_run at h
  replace h := pR_some h
  obtain ⟨o, as1, rfl, h⟩ := h
  replace h := bd_some h
  obtain ⟨s, rfl, h⟩ := h
  replace h := pR_some h
  obtain ⟨x1, as1, rfl, h⟩ := h
  replace h := pI_some h
  obtain ⟨x2, as1, rfl, h⟩ := h
  replace h := pI_some h
  obtain ⟨x3, as1, rfl, h⟩ := h
  replace h := xe_some h
  obtain ⟨rfl, h⟩ := h
  obtain ⟨p1, hp, h⟩ := Option.bind_eq_some_iff.mp h
  exact ⟨_, _, ok_X6_run l D cA sA fu s x1 x2 x3 M hp, h, fun _ => ⟨_, _, rfl⟩⟩
theorem cd_X2_mappedPages : Cond.code yX2_mappedPages cX2_mappedPages 3 (some .int) ∈ xG := (xg 1415 (by decide +kernel) (by decide +kernel))
theorem pr_X2_mappedPages : (∀ e ∈ pX2_mappedPages, xrow cX2_mappedPages 3 kdX2 flX2 0 false RX2 e) ∧ xnext pX2_mappedPages = true := xrows (by decide +kernel)
set_option maxRecDepth 100000 in
theorem wx_X2_mappedPages_4 (X : xCtx p R S0 m ag c0 D cA A0 sA 3 cX2_mappedPages RX2 (.code yX2_mappedPages cX2_mappedPages 3 (some .int) :: xG) 0 0) (hi : meth.name = yX2_mappedPages.name) (hroom : 0 + 2 ≤ R.frames ∧ 60 * (0 + 2) ≤ R.locals) {rr : Int32 × xM} (hE : xEnd l D cA sA cX2_mappedPages 3 (some .int) R 0 0 (some (.inl rr.1)) rr.2 p e S0 m ag below meth c0 A0 M0 ad0 Z) (fu : Nat) : ∀ (n : Nat) (s : Nat) (x1 : Int32) (x2 : Int32) (M : xM), L_X2_mappedPages_4 fu n s x1 x2 M = some rr → xWx p l e R S0 m ag below meth c0 D cA A0 sA M0 ad0 3 Z 0 0 4 0 0 [(0, .inr (.inr (2, some s))), (1, .inl x1), (2, .inl x2)] [] M := by
  intro n
  induction n with
  | zero => intro s x1 x2 M h; cases h
  | succ n ih =>
    intro s x1 x2 M h
    rw [← q_X2_mappedPages_4 fu n s x1 x2 M] at h
    have hT : ∀ w ∈ xG, w ∈ (Cond.code yX2_mappedPages cX2_mappedPages 3 (some .int) :: xG) := fun w hw => List.mem_cons_of_mem _ hw
    refine xrun_sound (nst := 0) (isInit := false) (kd := kdX2) X (xcls_mono hT xclsG) (xpool_mono hT plX2) (fun z => by cases z) (fun idx v hf => xkoE_mono hT (koX2_ok _ (xfind_mem hf))) (xents (ca := _) ?_) (endI hE).1 (endI hE).2 (xcuts (cu := _) ?_) pr_X2_mappedPages.1 pr_X2_mappedPages.2 _ _ _ _ _ _ _ _ (xat_ok pr_X2_mappedPages.1 pr_X2_mappedPages.2).1 (xat_ok pr_X2_mappedPages.1 pr_X2_mappedPages.2).2.1 (xat_ok pr_X2_mappedPages.1 pr_X2_mappedPages.2).2.2 h
    · exact (fun _ h => nomatch h)
    · refine (List.forall_mem_cons.mpr ⟨?_, (fun _ h => nomatch h)⟩)
      · intro bc bs ls st M h
        replace h := xz_some h
        obtain ⟨rfl, rfl, h⟩ := h
        replace h := lR_some h
        obtain ⟨o, e0, h⟩ := h
        replace h := bd_some h
        obtain ⟨s', rfl, h⟩ := h
        replace h := lI_some h
        obtain ⟨x1', e1, h⟩ := h
        replace h := lI_some h
        obtain ⟨x2', e2, h⟩ := h
        replace h := xe_some h
        obtain ⟨rfl, h⟩ := h
        exact xWx_ls (ih s' x1' x2' M h) (List.forall_mem_cons.mpr ⟨e0, (List.forall_mem_cons.mpr ⟨e1, (List.forall_mem_cons.mpr ⟨e2, (fun _ h => nomatch h)⟩)⟩)⟩)

set_option maxRecDepth 100000 in
theorem wx_X2_mappedPages (X : xCtx p R S0 m ag c0 D cA A0 sA 3 cX2_mappedPages RX2 (.code yX2_mappedPages cX2_mappedPages 3 (some .int) :: xG) 0 0) (hi : meth.name = yX2_mappedPages.name) (hroom : 0 + 2 ≤ R.frames ∧ 60 * (0 + 2) ≤ R.locals) {rr : Int32 × xM} (hE : xEnd l D cA sA cX2_mappedPages 3 (some .int) R 0 0 (some (.inl rr.1)) rr.2 p e S0 m ag below meth c0 A0 M0 ad0 Z) (fu : Nat) (s : Nat) (M : xM) (h : F_X2_mappedPages fu s M = some rr) : xWx p l e R S0 m ag below meth c0 D cA A0 sA M0 ad0 3 Z 0 0 0 0 0 [(0, .inr (.inr (2, some s)))] [] M := by
  rw [← q_X2_mappedPages fu s M] at h
  have hT : ∀ w ∈ xG, w ∈ (Cond.code yX2_mappedPages cX2_mappedPages 3 (some .int) :: xG) := fun w hw => List.mem_cons_of_mem _ hw
  refine xrun_sound (nst := 0) (isInit := false) (kd := kdX2) X (xcls_mono hT xclsG) (xpool_mono hT plX2) (fun z => by cases z) (fun idx v hf => xkoE_mono hT (koX2_ok _ (xfind_mem hf))) (xents (ca := _) ?_) (endI hE).1 (endI hE).2 (xcuts (cu := _) ?_) pr_X2_mappedPages.1 pr_X2_mappedPages.2 _ _ _ _ _ _ _ _ (xat_ok pr_X2_mappedPages.1 pr_X2_mappedPages.2).1 (xat_ok pr_X2_mappedPages.1 pr_X2_mappedPages.2).2.1 (xat_ok pr_X2_mappedPages.1 pr_X2_mappedPages.2).2.2 h
  · exact (fun _ h => nomatch h)
  · refine (List.forall_mem_cons.mpr ⟨?_, (fun _ h => nomatch h)⟩)
    · intro bc bs ls st M h
      replace h := xz_some h
      obtain ⟨rfl, rfl, h⟩ := h
      replace h := lR_some h
      obtain ⟨o, e0, h⟩ := h
      replace h := bd_some h
      obtain ⟨s', rfl, h⟩ := h
      replace h := lI_some h
      obtain ⟨x1', e1, h⟩ := h
      replace h := lI_some h
      obtain ⟨x2', e2, h⟩ := h
      replace h := xe_some h
      obtain ⟨rfl, h⟩ := h
      exact xWx_ls (wx_X2_mappedPages_4 X hi hroom hE fu fu s' x1' x2' M h) (List.forall_mem_cons.mpr ⟨e0, (List.forall_mem_cons.mpr ⟨e1, (List.forall_mem_cons.mpr ⟨e2, (fun _ h => nomatch h)⟩)⟩)⟩)

theorem ok_X2_mappedPages (l : Launch) (D : va_G) (cA : Nat → ClassId) (sA : Nat → Nat) (fu : Nat) (s : Nat) (M : xM) {rr : Int32 × xM} (h : F_X2_mappedPages fu s M = some rr) : xMet l D cA sA yX2_mappedPages cX2_mappedPages 3 (some .int) xG (0 + 1) 0 0 [.inr (.inr (2, some s))] M (some (.inl rr.1)) rr.2 :=
  xmet_of (by decide +kernel) (Nat.le_of_ble_eq_true rfl) (fun p e s1 m ag below meth c0 A0 ad0 Z X hn hE => wx_X2_mappedPages X hn ⟨Nat.le_refl _, Nat.le_refl _⟩ hE fu s M h)
theorem hw_X2_mappedPages (l : Launch) (D : va_G) (cA : Nat → ClassId) (sA : Nat → Nat) (fu : Nat) {ρ : Type} {r0 : ρ} (kd1 : Nat) : ∀ (as : List xV) (M : xM) (k : Option xV → xM → Option ρ), w_X2_mappedPages fu as M k = some r0 → ∃ v M', xMet l D cA sA yX2_mappedPages cX2_mappedPages 3 (some .int) xG (0 + 1) 0 0 as M v M' ∧ k v M' = some r0 ∧ (kd1 ≠ 2 → ∃ a as', as = .inr (.inr (2, some a)) :: as') := by
  intro as M k h
  unfold w_X2_mappedPages at h
  replace h := pR_some h
  obtain ⟨o, as1, rfl, h⟩ := h
  replace h := bd_some h
  obtain ⟨s, rfl, h⟩ := h
  replace h := xe_some h
  obtain ⟨rfl, h⟩ := h
  obtain ⟨p1, hp, h⟩ := Option.bind_eq_some_iff.mp h
  exact ⟨_, _, ok_X2_mappedPages l D cA sA fu s M hp, h, fun _ => ⟨_, _, rfl⟩⟩
theorem lk_X11_246 : xLink xG RX11 246 0 yX11_tryFromNow 0 := ⟨Or.inl (xg 1249 (by decide +kernel) (by decide +kernel)), (xg 1251 (by decide +kernel) (by decide +kernel)), (xg 33 (by decide +kernel) (by decide +kernel)), (xg 128 (by decide +kernel) (by decide +kernel)), ⟨11, by decide, TX11, 14, rfl⟩⟩
theorem lk_X11_319 : xLink xG RX11 319 0 yX6_run 3 := ⟨Or.inl (xg 1395 (by decide +kernel) (by decide +kernel)), (xg 1396 (by decide +kernel) (by decide +kernel)), (xg 1397 (by decide +kernel) (by decide +kernel)), (xg 140 (by decide +kernel) (by decide +kernel)), ⟨6, by decide, TX6, 1, rfl⟩⟩
theorem lk_X11_322 : xLink xG RX11 322 0 yX2_mappedPages 0 := ⟨Or.inl (xg 1412 (by decide +kernel) (by decide +kernel)), (xg 1413 (by decide +kernel) (by decide +kernel)), (xg 1414 (by decide +kernel) (by decide +kernel)), (xg 134 (by decide +kernel) (by decide +kernel)), ⟨2, by decide, TX2, 16, rfl⟩⟩
theorem cd_X11_ages : Cond.code yX11_ages cX11_ages 5 (some .int) ∈ xG := (xg 1394 (by decide +kernel) (by decide +kernel))
theorem pr_X11_ages : (∀ e ∈ pX11_ages, xrow cX11_ages 5 kdX11 flX11 0 false RX11 e) ∧ xnext pX11_ages = true := xrows (by decide +kernel)
set_option maxRecDepth 100000 in
theorem wx_X11_ages (X : xCtx p R S0 m ag c0 D cA A0 sA 5 cX11_ages RX11 (.code yX11_ages cX11_ages 5 (some .int) :: xG) 0 0) (hi : meth.name = yX11_ages.name) (hroom : 12 + 2 ≤ R.frames ∧ 60 * (12 + 2) ≤ R.locals) {rr : Int32 × xM} (hE : xEnd l D cA sA cX11_ages 5 (some .int) R 0 0 (some (.inl rr.1)) rr.2 p e S0 m ag below meth c0 A0 M0 ad0 Z) (fu : Nat) (s : Nat) (x1 : Int32) (x2 : Int32) (x3 : Int32) (M : xM) (h : F_X11_ages fu s x1 x2 x3 M = some rr) : xWx p l e R S0 m ag below meth c0 D cA A0 sA M0 ad0 5 Z 0 0 0 0 0 [(0, .inr (.inr (11, some s))), (1, .inl x1), (2, .inl x2), (3, .inl x3)] [] M := by
  rw [← q_X11_ages fu s x1 x2 x3 M] at h
  have hT : ∀ w ∈ xG, w ∈ (Cond.code yX11_ages cX11_ages 5 (some .int) :: xG) := fun w hw => List.mem_cons_of_mem _ hw
  refine xrun_sound (nst := 0) (isInit := false) (kd := kdX11) X (xcls_mono hT xclsG) (xpool_mono hT plX11) (fun z => by cases z) (fun idx v hf => xkoE_mono hT (koX11_ok _ (xfind_mem hf))) (xents (ca := _) ?_) (endI hE).1 (endI hE).2 (xcuts (cu := _) ?_) pr_X11_ages.1 pr_X11_ages.2 _ _ _ _ _ _ _ _ (xat_ok pr_X11_ages.1 pr_X11_ages.2).1 (xat_ok pr_X11_ages.1 pr_X11_ages.2).2.1 (xat_ok pr_X11_ages.1 pr_X11_ages.2).2.2 h
  · exact (List.forall_mem_cons.mpr ⟨(xent_met X (ci := 11) hT cd_X11_tryFromNow lk_X11_246 rfl (by decide) rfl (by decide +kernel) (fun z => absurd z (by decide)) (hw_X11_tryFromNow l D cA sA fu 0) (fun _ => ⟨by decide, fun _ => ⟨TX11, 14, rfl⟩⟩) (by constructor <;> omega) (by decide)), (List.forall_mem_cons.mpr ⟨(xent_met X (ci := 6) hT cd_X6_run lk_X11_319 rfl (by decide) rfl (by decide +kernel) (fun z => absurd z (by decide)) (hw_X6_run l D cA sA fu 0) (fun _ => ⟨by decide, fun _ => ⟨TX6, 1, rfl⟩⟩) (by constructor <;> omega) (by decide)), (List.forall_mem_cons.mpr ⟨(xent_met X (ci := 2) hT cd_X2_mappedPages lk_X11_322 rfl (by decide) rfl (by decide +kernel) (fun z => absurd z (by decide)) (hw_X2_mappedPages l D cA sA fu 0) (fun _ => ⟨by decide, fun _ => ⟨TX2, 16, rfl⟩⟩) (by constructor <;> omega) (by decide)), (fun _ h => nomatch h)⟩)⟩)⟩)
  · exact (fun _ h => nomatch h)

theorem ok_X11_ages (l : Launch) (D : va_G) (cA : Nat → ClassId) (sA : Nat → Nat) (fu : Nat) (s : Nat) (x1 : Int32) (x2 : Int32) (x3 : Int32) (M : xM) {rr : Int32 × xM} (h : F_X11_ages fu s x1 x2 x3 M = some rr) : xMet l D cA sA yX11_ages cX11_ages 5 (some .int) xG (12 + 1) 0 0 [.inr (.inr (11, some s)), .inl x1, .inl x2, .inl x3] M (some (.inl rr.1)) rr.2 :=
  xmet_of (by decide +kernel) (Nat.le_of_ble_eq_true rfl) (fun p e s1 m ag below meth c0 A0 ad0 Z X hn hE => wx_X11_ages X hn ⟨Nat.le_refl _, Nat.le_refl _⟩ hE fu s x1 x2 x3 M h)
theorem hw_X11_ages (l : Launch) (D : va_G) (cA : Nat → ClassId) (sA : Nat → Nat) (fu : Nat) {ρ : Type} {r0 : ρ} (kd1 : Nat) : ∀ (as : List xV) (M : xM) (k : Option xV → xM → Option ρ), w_X11_ages fu as M k = some r0 → ∃ v M', xMet l D cA sA yX11_ages cX11_ages 5 (some .int) xG (12 + 1) 0 0 as M v M' ∧ k v M' = some r0 ∧ (kd1 ≠ 2 → ∃ a as', as = .inr (.inr (11, some a)) :: as') := by
  intro as M k h
  unfold w_X11_ages at h
  replace h := pR_some h
  obtain ⟨o, as1, rfl, h⟩ := h
  replace h := bd_some h
  obtain ⟨s, rfl, h⟩ := h
  replace h := pI_some h
  obtain ⟨x1, as1, rfl, h⟩ := h
  replace h := pI_some h
  obtain ⟨x2, as1, rfl, h⟩ := h
  replace h := pI_some h
  obtain ⟨x3, as1, rfl, h⟩ := h
  replace h := xe_some h
  obtain ⟨rfl, h⟩ := h
  obtain ⟨p1, hp, h⟩ := Option.bind_eq_some_iff.mp h
  exact ⟨_, _, ok_X11_ages l D cA sA fu s x1 x2 x3 M hp, h, fun _ => ⟨_, _, rfl⟩⟩
theorem cd_X2_agreesWithFound : Cond.code yX2_agreesWithFound cX2_agreesWithFound 2 (some .boolean) ∈ xG := (xg 1277 (by decide +kernel) (by decide +kernel))
theorem pr_X2_agreesWithFound : (∀ e ∈ pX2_agreesWithFound, xrow cX2_agreesWithFound 2 kdX2 flX2 0 false RX2 e) ∧ xnext pX2_agreesWithFound = true := xrows (by decide +kernel)
set_option maxRecDepth 100000 in
theorem wx_X2_agreesWithFound_46 (X : xCtx p R S0 m ag c0 D cA A0 sA 2 cX2_agreesWithFound RX2 (.code yX2_agreesWithFound cX2_agreesWithFound 2 (some .boolean) :: xG) 0 0) (hi : meth.name = yX2_agreesWithFound.name) (hroom : 7 + 2 ≤ R.frames ∧ 60 * (7 + 2) ≤ R.locals) {rr : Int32 × xM} (hE : xEnd l D cA sA cX2_agreesWithFound 2 (some .boolean) R 0 0 (some (.inl rr.1)) rr.2 p e S0 m ag below meth c0 A0 M0 ad0 Z) (fu : Nat) (k13 : Nat → Int32 → xM → Option (Int32 × xM)) (hk13 : ∀ (s : Nat) (x1 : Int32) (M : xM), k13 s x1 M = some rr → xWx p l e R S0 m ag below meth c0 D cA A0 sA M0 ad0 2 Z 0 0 13 0 0 [(0, .inr (.inr (2, some s))), (1, .inl x1)] [] M) (s : Nat) (x1 : Int32) (y0 : Int32) (y1 : Int32) (M : xM) (h : J_X2_agreesWithFound_46 fu k13 s x1 y0 y1 M = some rr) : xWx p l e R S0 m ag below meth c0 D cA A0 sA M0 ad0 2 Z 0 0 46 0 0 [(0, .inr (.inr (2, some s))), (1, .inl x1)] [.inl y0, .inl y1] M := by
  rw [← q_X2_agreesWithFound_46 fu k13 s x1 y0 y1 M] at h
  have hT : ∀ w ∈ xG, w ∈ (Cond.code yX2_agreesWithFound cX2_agreesWithFound 2 (some .boolean) :: xG) := fun w hw => List.mem_cons_of_mem _ hw
  refine xrun_sound (nst := 0) (isInit := false) (kd := kdX2) X (xcls_mono hT xclsG) (xpool_mono hT plX2) (fun z => by cases z) (fun idx v hf => xkoE_mono hT (koX2_ok _ (xfind_mem hf))) (xents (ca := _) ?_) (endZ hE).1 (endZ hE).2 (xcuts (cu := _) ?_) pr_X2_agreesWithFound.1 pr_X2_agreesWithFound.2 _ _ _ _ _ _ _ _ (xat_ok pr_X2_agreesWithFound.1 pr_X2_agreesWithFound.2).1 (xat_ok pr_X2_agreesWithFound.1 pr_X2_agreesWithFound.2).2.1 (xat_ok pr_X2_agreesWithFound.1 pr_X2_agreesWithFound.2).2.2 h
  · exact (fun _ h => nomatch h)
  · refine (List.forall_mem_cons.mpr ⟨?_, (fun _ h => nomatch h)⟩)
    · intro bc bs ls st M h
      replace h := xz_some h
      obtain ⟨rfl, rfl, h⟩ := h
      replace h := lR_some h
      obtain ⟨o, e0, h⟩ := h
      replace h := bd_some h
      obtain ⟨s', rfl, h⟩ := h
      replace h := lI_some h
      obtain ⟨x1', e1, h⟩ := h
      replace h := xe_some h
      obtain ⟨rfl, h⟩ := h
      exact xWx_ls (hk13 s' x1' M h) (List.forall_mem_cons.mpr ⟨e0, (List.forall_mem_cons.mpr ⟨e1, (fun _ h => nomatch h)⟩)⟩)

set_option maxRecDepth 100000 in
theorem wx_X2_agreesWithFound_13 (X : xCtx p R S0 m ag c0 D cA A0 sA 2 cX2_agreesWithFound RX2 (.code yX2_agreesWithFound cX2_agreesWithFound 2 (some .boolean) :: xG) 0 0) (hi : meth.name = yX2_agreesWithFound.name) (hroom : 7 + 2 ≤ R.frames ∧ 60 * (7 + 2) ≤ R.locals) {rr : Int32 × xM} (hE : xEnd l D cA sA cX2_agreesWithFound 2 (some .boolean) R 0 0 (some (.inl rr.1)) rr.2 p e S0 m ag below meth c0 A0 M0 ad0 Z) (fu : Nat) : ∀ (n : Nat) (s : Nat) (x1 : Int32) (M : xM), L_X2_agreesWithFound_13 fu n s x1 M = some rr → xWx p l e R S0 m ag below meth c0 D cA A0 sA M0 ad0 2 Z 0 0 13 0 0 [(0, .inr (.inr (2, some s))), (1, .inl x1)] [] M := by
  intro n
  induction n with
  | zero => intro s x1 M h; cases h
  | succ n ih =>
    intro s x1 M h
    rw [← q_X2_agreesWithFound_13 fu n s x1 M] at h
    have hT : ∀ w ∈ xG, w ∈ (Cond.code yX2_agreesWithFound cX2_agreesWithFound 2 (some .boolean) :: xG) := fun w hw => List.mem_cons_of_mem _ hw
    refine xrun_sound (nst := 0) (isInit := false) (kd := kdX2) X (xcls_mono hT xclsG) (xpool_mono hT plX2) (fun z => by cases z) (fun idx v hf => xkoE_mono hT (koX2_ok _ (xfind_mem hf))) (xents (ca := _) ?_) (endZ hE).1 (endZ hE).2 (xcuts (cu := _) ?_) pr_X2_agreesWithFound.1 pr_X2_agreesWithFound.2 _ _ _ _ _ _ _ _ (xat_ok pr_X2_agreesWithFound.1 pr_X2_agreesWithFound.2).1 (xat_ok pr_X2_agreesWithFound.1 pr_X2_agreesWithFound.2).2.1 (xat_ok pr_X2_agreesWithFound.1 pr_X2_agreesWithFound.2).2.2 h
    · exact (List.forall_mem_cons.mpr ⟨(xent_met X (ci := 2) hT cd_X2_isKept lk_X2_217 rfl (by decide) rfl (by decide +kernel) (fun z => absurd z (by decide)) (hw_X2_isKept l D cA sA fu 0) (fun _ => ⟨by decide, fun _ => ⟨TX2, 16, rfl⟩⟩) (by constructor <;> omega) (by decide)), (fun _ h => nomatch h)⟩)
    · refine (List.forall_mem_cons.mpr ⟨?_, (fun _ h => nomatch h)⟩)
      · intro bc bs ls st M h
        replace h := xz_some h
        obtain ⟨rfl, rfl, h⟩ := h
        replace h := lR_some h
        obtain ⟨o, e0, h⟩ := h
        replace h := bd_some h
        obtain ⟨s', rfl, h⟩ := h
        replace h := lI_some h
        obtain ⟨x1', e1, h⟩ := h
        replace h := pI_some h
        obtain ⟨y0', st, rfl, h⟩ := h
        replace h := pI_some h
        obtain ⟨y1', st, rfl, h⟩ := h
        replace h := xe_some h
        obtain ⟨rfl, h⟩ := h
        exact xWx_ls (wx_X2_agreesWithFound_46 X hi hroom hE fu _ ih s' x1' y0' y1' M h) (List.forall_mem_cons.mpr ⟨e0, (List.forall_mem_cons.mpr ⟨e1, (fun _ h => nomatch h)⟩)⟩)

set_option maxRecDepth 100000 in
theorem wx_X2_agreesWithFound (X : xCtx p R S0 m ag c0 D cA A0 sA 2 cX2_agreesWithFound RX2 (.code yX2_agreesWithFound cX2_agreesWithFound 2 (some .boolean) :: xG) 0 0) (hi : meth.name = yX2_agreesWithFound.name) (hroom : 7 + 2 ≤ R.frames ∧ 60 * (7 + 2) ≤ R.locals) {rr : Int32 × xM} (hE : xEnd l D cA sA cX2_agreesWithFound 2 (some .boolean) R 0 0 (some (.inl rr.1)) rr.2 p e S0 m ag below meth c0 A0 M0 ad0 Z) (fu : Nat) (s : Nat) (M : xM) (h : F_X2_agreesWithFound fu s M = some rr) : xWx p l e R S0 m ag below meth c0 D cA A0 sA M0 ad0 2 Z 0 0 0 0 0 [(0, .inr (.inr (2, some s)))] [] M := by
  rw [← q_X2_agreesWithFound fu s M] at h
  have hT : ∀ w ∈ xG, w ∈ (Cond.code yX2_agreesWithFound cX2_agreesWithFound 2 (some .boolean) :: xG) := fun w hw => List.mem_cons_of_mem _ hw
  refine xrun_sound (nst := 0) (isInit := false) (kd := kdX2) X (xcls_mono hT xclsG) (xpool_mono hT plX2) (fun z => by cases z) (fun idx v hf => xkoE_mono hT (koX2_ok _ (xfind_mem hf))) (xents (ca := _) ?_) (endZ hE).1 (endZ hE).2 (xcuts (cu := _) ?_) pr_X2_agreesWithFound.1 pr_X2_agreesWithFound.2 _ _ _ _ _ _ _ _ (xat_ok pr_X2_agreesWithFound.1 pr_X2_agreesWithFound.2).1 (xat_ok pr_X2_agreesWithFound.1 pr_X2_agreesWithFound.2).2.1 (xat_ok pr_X2_agreesWithFound.1 pr_X2_agreesWithFound.2).2.2 h
  · exact (List.forall_mem_cons.mpr ⟨(xent_met X (ci := 4) hT cd_X4_find lk_X2_106 rfl (by decide) rfl (by decide +kernel) (fun z => absurd z (by decide)) (hw_X4_find l D cA sA fu 0) (fun _ => ⟨by decide, fun _ => ⟨TX4, 4, rfl⟩⟩) (by constructor <;> omega) (by decide)), (fun _ h => nomatch h)⟩)
  · refine (List.forall_mem_cons.mpr ⟨?_, (fun _ h => nomatch h)⟩)
    · intro bc bs ls st M h
      replace h := xz_some h
      obtain ⟨rfl, rfl, h⟩ := h
      replace h := lR_some h
      obtain ⟨o, e0, h⟩ := h
      replace h := bd_some h
      obtain ⟨s', rfl, h⟩ := h
      replace h := lI_some h
      obtain ⟨x1', e1, h⟩ := h
      replace h := xe_some h
      obtain ⟨rfl, h⟩ := h
      exact xWx_ls (wx_X2_agreesWithFound_13 X hi hroom hE fu fu s' x1' M h) (List.forall_mem_cons.mpr ⟨e0, (List.forall_mem_cons.mpr ⟨e1, (fun _ h => nomatch h)⟩)⟩)

theorem ok_X2_agreesWithFound (l : Launch) (D : va_G) (cA : Nat → ClassId) (sA : Nat → Nat) (fu : Nat) (s : Nat) (M : xM) {rr : Int32 × xM} (h : F_X2_agreesWithFound fu s M = some rr) : xMet l D cA sA yX2_agreesWithFound cX2_agreesWithFound 2 (some .boolean) xG (7 + 1) 0 0 [.inr (.inr (2, some s))] M (some (.inl rr.1)) rr.2 :=
  xmet_of (by decide +kernel) (Nat.le_of_ble_eq_true rfl) (fun p e s1 m ag below meth c0 A0 ad0 Z X hn hE => wx_X2_agreesWithFound X hn ⟨Nat.le_refl _, Nat.le_refl _⟩ hE fu s M h)
theorem hw_X2_agreesWithFound (l : Launch) (D : va_G) (cA : Nat → ClassId) (sA : Nat → Nat) (fu : Nat) {ρ : Type} {r0 : ρ} (kd1 : Nat) : ∀ (as : List xV) (M : xM) (k : Option xV → xM → Option ρ), w_X2_agreesWithFound fu as M k = some r0 → ∃ v M', xMet l D cA sA yX2_agreesWithFound cX2_agreesWithFound 2 (some .boolean) xG (7 + 1) 0 0 as M v M' ∧ k v M' = some r0 ∧ (kd1 ≠ 2 → ∃ a as', as = .inr (.inr (2, some a)) :: as') := by
  intro as M k h
  unfold w_X2_agreesWithFound at h
  replace h := pR_some h
  obtain ⟨o, as1, rfl, h⟩ := h
  replace h := bd_some h
  obtain ⟨s, rfl, h⟩ := h
  replace h := xe_some h
  obtain ⟨rfl, h⟩ := h
  obtain ⟨p1, hp, h⟩ := Option.bind_eq_some_iff.mp h
  exact ⟨_, _, ok_X2_agreesWithFound l D cA sA fu s M hp, h, fun _ => ⟨_, _, rfl⟩⟩
theorem lk_X11_259 : xLink xG RX11 259 0 yX2_agreesWithFound 0 := ⟨Or.inl (xg 1274 (by decide +kernel) (by decide +kernel)), (xg 1275 (by decide +kernel) (by decide +kernel)), (xg 1276 (by decide +kernel) (by decide +kernel)), (xg 134 (by decide +kernel) (by decide +kernel)), ⟨2, by decide, TX2, 16, rfl⟩⟩
theorem cd_X11_agrees : Cond.code yX11_agrees cX11_agrees 1 (some .boolean) ∈ xG := (xg 1273 (by decide +kernel) (by decide +kernel))
theorem pr_X11_agrees : (∀ e ∈ pX11_agrees, xrow cX11_agrees 1 kdX11 flX11 0 false RX11 e) ∧ xnext pX11_agrees = true := xrows (by decide +kernel)
set_option maxRecDepth 100000 in
theorem wx_X11_agrees (X : xCtx p R S0 m ag c0 D cA A0 sA 1 cX11_agrees RX11 (.code yX11_agrees cX11_agrees 1 (some .boolean) :: xG) 0 0) (hi : meth.name = yX11_agrees.name) (hroom : 8 + 2 ≤ R.frames ∧ 60 * (8 + 2) ≤ R.locals) {rr : Int32 × xM} (hE : xEnd l D cA sA cX11_agrees 1 (some .boolean) R 0 0 (some (.inl rr.1)) rr.2 p e S0 m ag below meth c0 A0 M0 ad0 Z) (fu : Nat) (s : Nat) (M : xM) (h : F_X11_agrees fu s M = some rr) : xWx p l e R S0 m ag below meth c0 D cA A0 sA M0 ad0 1 Z 0 0 0 0 0 [(0, .inr (.inr (11, some s)))] [] M := by
  rw [← q_X11_agrees fu s M] at h
  have hT : ∀ w ∈ xG, w ∈ (Cond.code yX11_agrees cX11_agrees 1 (some .boolean) :: xG) := fun w hw => List.mem_cons_of_mem _ hw
  refine xrun_sound (nst := 0) (isInit := false) (kd := kdX11) X (xcls_mono hT xclsG) (xpool_mono hT plX11) (fun z => by cases z) (fun idx v hf => xkoE_mono hT (koX11_ok _ (xfind_mem hf))) (xents (ca := _) ?_) (endZ hE).1 (endZ hE).2 (xcuts (cu := _) ?_) pr_X11_agrees.1 pr_X11_agrees.2 _ _ _ _ _ _ _ _ (xat_ok pr_X11_agrees.1 pr_X11_agrees.2).1 (xat_ok pr_X11_agrees.1 pr_X11_agrees.2).2.1 (xat_ok pr_X11_agrees.1 pr_X11_agrees.2).2.2 h
  · exact (List.forall_mem_cons.mpr ⟨(xent_met X (ci := 2) hT cd_X2_agreesWithFound lk_X11_259 rfl (by decide) rfl (by decide +kernel) (fun z => absurd z (by decide)) (hw_X2_agreesWithFound l D cA sA fu 0) (fun _ => ⟨by decide, fun _ => ⟨TX2, 16, rfl⟩⟩) (by constructor <;> omega) (by decide)), (fun _ h => nomatch h)⟩)
  · exact (fun _ h => nomatch h)

theorem ok_X11_agrees (l : Launch) (D : va_G) (cA : Nat → ClassId) (sA : Nat → Nat) (fu : Nat) (s : Nat) (M : xM) {rr : Int32 × xM} (h : F_X11_agrees fu s M = some rr) : xMet l D cA sA yX11_agrees cX11_agrees 1 (some .boolean) xG (8 + 1) 0 0 [.inr (.inr (11, some s))] M (some (.inl rr.1)) rr.2 :=
  xmet_of (by decide +kernel) (Nat.le_of_ble_eq_true rfl) (fun p e s1 m ag below meth c0 A0 ad0 Z X hn hE => wx_X11_agrees X hn ⟨Nat.le_refl _, Nat.le_refl _⟩ hE fu s M h)
theorem hw_X11_agrees (l : Launch) (D : va_G) (cA : Nat → ClassId) (sA : Nat → Nat) (fu : Nat) {ρ : Type} {r0 : ρ} (kd1 : Nat) : ∀ (as : List xV) (M : xM) (k : Option xV → xM → Option ρ), w_X11_agrees fu as M k = some r0 → ∃ v M', xMet l D cA sA yX11_agrees cX11_agrees 1 (some .boolean) xG (8 + 1) 0 0 as M v M' ∧ k v M' = some r0 ∧ (kd1 ≠ 2 → ∃ a as', as = .inr (.inr (11, some a)) :: as') := by
  intro as M k h
  unfold w_X11_agrees at h
  replace h := pR_some h
  obtain ⟨o, as1, rfl, h⟩ := h
  replace h := bd_some h
  obtain ⟨s, rfl, h⟩ := h
  replace h := xe_some h
  obtain ⟨rfl, h⟩ := h
  obtain ⟨p1, hp, h⟩ := Option.bind_eq_some_iff.mp h
  exact ⟨_, _, ok_X11_agrees l D cA sA fu s M hp, h, fun _ => ⟨_, _, rfl⟩⟩
theorem lk_X11_140 : xLink xG RX11 140 0 yX0_isBlock 1 := ⟨Or.inl (xg 948 (by decide +kernel) (by decide +kernel)), (xg 949 (by decide +kernel) (by decide +kernel)), (xg 950 (by decide +kernel) (by decide +kernel)), (xg 135 (by decide +kernel) (by decide +kernel)), ⟨0, by decide, TX0, 16, rfl⟩⟩
theorem lk_X11_143 : xLink xG RX11 143 0 yX2_survey 0 := ⟨Or.inl (xg 952 (by decide +kernel) (by decide +kernel)), (xg 921 (by decide +kernel) (by decide +kernel)), (xg 922 (by decide +kernel) (by decide +kernel)), (xg 134 (by decide +kernel) (by decide +kernel)), ⟨2, by decide, TX2, 16, rfl⟩⟩
theorem lk_X11_153 : xLink xG RX11 153 0 yX2_dirtyIn 1 := ⟨Or.inl (xg 953 (by decide +kernel) (by decide +kernel)), (xg 954 (by decide +kernel) (by decide +kernel)), (xg 955 (by decide +kernel) (by decide +kernel)), (xg 134 (by decide +kernel) (by decide +kernel)), ⟨2, by decide, TX2, 16, rfl⟩⟩
theorem cd_X11_block : Cond.code yX11_block cX11_block 3 (some .int) ∈ xG := (xg 947 (by decide +kernel) (by decide +kernel))
theorem pr_X11_block : (∀ e ∈ pX11_block, xrow cX11_block 3 kdX11 flX11 0 false RX11 e) ∧ xnext pX11_block = true := xrows (by decide +kernel)
set_option maxRecDepth 100000 in
theorem wx_X11_block (X : xCtx p R S0 m ag c0 D cA A0 sA 3 cX11_block RX11 (.code yX11_block cX11_block 3 (some .int) :: xG) 0 0) (hi : meth.name = yX11_block.name) (hroom : 2 + 2 ≤ R.frames ∧ 60 * (2 + 2) ≤ R.locals) {rr : Int32 × xM} (hE : xEnd l D cA sA cX11_block 3 (some .int) R 0 0 (some (.inl rr.1)) rr.2 p e S0 m ag below meth c0 A0 M0 ad0 Z) (fu : Nat) (s : Nat) (x1 : Int32) (x2 : Int32) (M : xM) (h : F_X11_block fu s x1 x2 M = some rr) : xWx p l e R S0 m ag below meth c0 D cA A0 sA M0 ad0 3 Z 0 0 0 0 0 [(0, .inr (.inr (11, some s))), (1, .inl x1), (2, .inl x2)] [] M := by
  rw [← q_X11_block fu s x1 x2 M] at h
  have hT : ∀ w ∈ xG, w ∈ (Cond.code yX11_block cX11_block 3 (some .int) :: xG) := fun w hw => List.mem_cons_of_mem _ hw
  refine xrun_sound (nst := 0) (isInit := false) (kd := kdX11) X (xcls_mono hT xclsG) (xpool_mono hT plX11) (fun z => by cases z) (fun idx v hf => xkoE_mono hT (koX11_ok _ (xfind_mem hf))) (xents (ca := _) ?_) (endI hE).1 (endI hE).2 (xcuts (cu := _) ?_) pr_X11_block.1 pr_X11_block.2 _ _ _ _ _ _ _ _ (xat_ok pr_X11_block.1 pr_X11_block.2).1 (xat_ok pr_X11_block.1 pr_X11_block.2).2.1 (xat_ok pr_X11_block.1 pr_X11_block.2).2.2 h
  · exact (List.forall_mem_cons.mpr ⟨(xent_met X (ci := 0) hT cd_X0_isBlock lk_X11_140 rfl (by decide) rfl (by decide +kernel) (fun z => absurd z (by decide)) (hw_X0_isBlock l D cA sA fu 0) (fun _ => ⟨by decide, fun _ => ⟨TX0, 16, rfl⟩⟩) (by constructor <;> omega) (by decide)), (List.forall_mem_cons.mpr ⟨(xent_met X (ci := 2) hT cd_X2_survey lk_X11_143 rfl (by decide) rfl (by decide +kernel) (fun z => absurd z (by decide)) (hw_X2_survey l D cA sA fu 0) (fun _ => ⟨by decide, fun _ => ⟨TX2, 16, rfl⟩⟩) (by constructor <;> omega) (by decide)), (List.forall_mem_cons.mpr ⟨(xent_met X (ci := 2) hT cd_X2_dirtyIn lk_X11_153 rfl (by decide) rfl (by decide +kernel) (fun z => absurd z (by decide)) (hw_X2_dirtyIn l D cA sA fu 0) (fun _ => ⟨by decide, fun _ => ⟨TX2, 16, rfl⟩⟩) (by constructor <;> omega) (by decide)), (fun _ h => nomatch h)⟩)⟩)⟩)
  · exact (fun _ h => nomatch h)

theorem ok_X11_block (l : Launch) (D : va_G) (cA : Nat → ClassId) (sA : Nat → Nat) (fu : Nat) (s : Nat) (x1 : Int32) (x2 : Int32) (M : xM) {rr : Int32 × xM} (h : F_X11_block fu s x1 x2 M = some rr) : xMet l D cA sA yX11_block cX11_block 3 (some .int) xG (2 + 1) 0 0 [.inr (.inr (11, some s)), .inl x1, .inl x2] M (some (.inl rr.1)) rr.2 :=
  xmet_of (by decide +kernel) (Nat.le_of_ble_eq_true rfl) (fun p e s1 m ag below meth c0 A0 ad0 Z X hn hE => wx_X11_block X hn ⟨Nat.le_refl _, Nat.le_refl _⟩ hE fu s x1 x2 M h)
theorem hw_X11_block (l : Launch) (D : va_G) (cA : Nat → ClassId) (sA : Nat → Nat) (fu : Nat) {ρ : Type} {r0 : ρ} (kd1 : Nat) : ∀ (as : List xV) (M : xM) (k : Option xV → xM → Option ρ), w_X11_block fu as M k = some r0 → ∃ v M', xMet l D cA sA yX11_block cX11_block 3 (some .int) xG (2 + 1) 0 0 as M v M' ∧ k v M' = some r0 ∧ (kd1 ≠ 2 → ∃ a as', as = .inr (.inr (11, some a)) :: as') := by
  intro as M k h
  unfold w_X11_block at h
  replace h := pR_some h
  obtain ⟨o, as1, rfl, h⟩ := h
  replace h := bd_some h
  obtain ⟨s, rfl, h⟩ := h
  replace h := pI_some h
  obtain ⟨x1, as1, rfl, h⟩ := h
  replace h := pI_some h
  obtain ⟨x2, as1, rfl, h⟩ := h
  replace h := xe_some h
  obtain ⟨rfl, h⟩ := h
  obtain ⟨p1, hp, h⟩ := Option.bind_eq_some_iff.mp h
  exact ⟨_, _, ok_X11_block l D cA sA fu s x1 x2 M hp, h, fun _ => ⟨_, _, rfl⟩⟩
theorem lk_X11_278 : xLink xG RX11 278 0 yX0_countData 3 := ⟨Or.inl (xg 1322 (by decide +kernel) (by decide +kernel)), (xg 1323 (by decide +kernel) (by decide +kernel)), (xg 1324 (by decide +kernel) (by decide +kernel)), (xg 135 (by decide +kernel) (by decide +kernel)), ⟨0, by decide, TX0, 16, rfl⟩⟩
theorem cd_X11_chain : Cond.code yX11_chain cX11_chain 3 (some .int) ∈ xG := (xg 1330 (by decide +kernel) (by decide +kernel))
theorem pr_X11_chain : (∀ e ∈ pX11_chain, xrow cX11_chain 3 kdX11 flX11 0 false RX11 e) ∧ xnext pX11_chain = true := xrows (by decide +kernel)
set_option maxRecDepth 100000 in
theorem wx_X11_chain (X : xCtx p R S0 m ag c0 D cA A0 sA 3 cX11_chain RX11 (.code yX11_chain cX11_chain 3 (some .int) :: xG) 0 0) (hi : meth.name = yX11_chain.name) (hroom : 2 + 2 ≤ R.frames ∧ 60 * (2 + 2) ≤ R.locals) {rr : Int32 × xM} (hE : xEnd l D cA sA cX11_chain 3 (some .int) R 0 0 (some (.inl rr.1)) rr.2 p e S0 m ag below meth c0 A0 M0 ad0 Z) (fu : Nat) (s : Nat) (x1 : Int32) (x2 : Int32) (M : xM) (h : F_X11_chain fu s x1 x2 M = some rr) : xWx p l e R S0 m ag below meth c0 D cA A0 sA M0 ad0 3 Z 0 0 0 0 0 [(0, .inr (.inr (11, some s))), (1, .inl x1), (2, .inl x2)] [] M := by
  rw [← q_X11_chain fu s x1 x2 M] at h
  have hT : ∀ w ∈ xG, w ∈ (Cond.code yX11_chain cX11_chain 3 (some .int) :: xG) := fun w hw => List.mem_cons_of_mem _ hw
  refine xrun_sound (nst := 0) (isInit := false) (kd := kdX11) X (xcls_mono hT xclsG) (xpool_mono hT plX11) (fun z => by cases z) (fun idx v hf => xkoE_mono hT (koX11_ok _ (xfind_mem hf))) (xents (ca := _) ?_) (endI hE).1 (endI hE).2 (xcuts (cu := _) ?_) pr_X11_chain.1 pr_X11_chain.2 _ _ _ _ _ _ _ _ (xat_ok pr_X11_chain.1 pr_X11_chain.2).1 (xat_ok pr_X11_chain.1 pr_X11_chain.2).2.1 (xat_ok pr_X11_chain.1 pr_X11_chain.2).2.2 h
  · exact (List.forall_mem_cons.mpr ⟨(xent_met X (ci := 7) hT cd_X7_isPage lk_X11_213 rfl (by decide) rfl (by decide +kernel) (fun z => absurd z (by decide)) (hw_X7_isPage l D cA sA fu 0) (fun _ => ⟨by decide, fun _ => ⟨TX7, 9, rfl⟩⟩) (by constructor <;> omega) (by decide)), (List.forall_mem_cons.mpr ⟨(xent_met X (ci := 0) hT cd_X0_countData lk_X11_278 rfl (by decide) rfl (by decide +kernel) (fun z => absurd z (by decide)) (hw_X0_countData l D cA sA fu 0) (fun _ => ⟨by decide, fun _ => ⟨TX0, 16, rfl⟩⟩) (by constructor <;> omega) (by decide)), (fun _ h => nomatch h)⟩)⟩)
  · exact (fun _ h => nomatch h)

theorem ok_X11_chain (l : Launch) (D : va_G) (cA : Nat → ClassId) (sA : Nat → Nat) (fu : Nat) (s : Nat) (x1 : Int32) (x2 : Int32) (M : xM) {rr : Int32 × xM} (h : F_X11_chain fu s x1 x2 M = some rr) : xMet l D cA sA yX11_chain cX11_chain 3 (some .int) xG (2 + 1) 0 0 [.inr (.inr (11, some s)), .inl x1, .inl x2] M (some (.inl rr.1)) rr.2 :=
  xmet_of (by decide +kernel) (Nat.le_of_ble_eq_true rfl) (fun p e s1 m ag below meth c0 A0 ad0 Z X hn hE => wx_X11_chain X hn ⟨Nat.le_refl _, Nat.le_refl _⟩ hE fu s x1 x2 M h)
theorem hw_X11_chain (l : Launch) (D : va_G) (cA : Nat → ClassId) (sA : Nat → Nat) (fu : Nat) {ρ : Type} {r0 : ρ} (kd1 : Nat) : ∀ (as : List xV) (M : xM) (k : Option xV → xM → Option ρ), w_X11_chain fu as M k = some r0 → ∃ v M', xMet l D cA sA yX11_chain cX11_chain 3 (some .int) xG (2 + 1) 0 0 as M v M' ∧ k v M' = some r0 ∧ (kd1 ≠ 2 → ∃ a as', as = .inr (.inr (11, some a)) :: as') := by
  intro as M k h
  unfold w_X11_chain at h
  replace h := pR_some h
  obtain ⟨o, as1, rfl, h⟩ := h
  replace h := bd_some h
  obtain ⟨s, rfl, h⟩ := h
  replace h := pI_some h
  obtain ⟨x1, as1, rfl, h⟩ := h
  replace h := pI_some h
  obtain ⟨x2, as1, rfl, h⟩ := h
  replace h := xe_some h
  obtain ⟨rfl, h⟩ := h
  obtain ⟨p1, hp, h⟩ := Option.bind_eq_some_iff.mp h
  exact ⟨_, _, ok_X11_chain l D cA sA fu s x1 x2 M hp, h, fun _ => ⟨_, _, rfl⟩⟩
theorem lk_X11_191 : xLink xG RX11 191 0 yX2_closeFile 1 := ⟨Or.inl (xg 1136 (by decide +kernel) (by decide +kernel)), (xg 1137 (by decide +kernel) (by decide +kernel)), (xg 1138 (by decide +kernel) (by decide +kernel)), (xg 134 (by decide +kernel) (by decide +kernel)), ⟨2, by decide, TX2, 16, rfl⟩⟩
theorem cd_X11_close : Cond.code yX11_close cX11_close 2 (some .boolean) ∈ xG := (xg 1135 (by decide +kernel) (by decide +kernel))
theorem pr_X11_close : (∀ e ∈ pX11_close, xrow cX11_close 2 kdX11 flX11 0 false RX11 e) ∧ xnext pX11_close = true := xrows (by decide +kernel)
set_option maxRecDepth 100000 in
theorem wx_X11_close (X : xCtx p R S0 m ag c0 D cA A0 sA 2 cX11_close RX11 (.code yX11_close cX11_close 2 (some .boolean) :: xG) 0 0) (hi : meth.name = yX11_close.name) (hroom : 2 + 2 ≤ R.frames ∧ 60 * (2 + 2) ≤ R.locals) {rr : Int32 × xM} (hE : xEnd l D cA sA cX11_close 2 (some .boolean) R 0 0 (some (.inl rr.1)) rr.2 p e S0 m ag below meth c0 A0 M0 ad0 Z) (fu : Nat) (s : Nat) (x1 : Int32) (M : xM) (h : F_X11_close fu s x1 M = some rr) : xWx p l e R S0 m ag below meth c0 D cA A0 sA M0 ad0 2 Z 0 0 0 0 0 [(0, .inr (.inr (11, some s))), (1, .inl x1)] [] M := by
  rw [← q_X11_close fu s x1 M] at h
  have hT : ∀ w ∈ xG, w ∈ (Cond.code yX11_close cX11_close 2 (some .boolean) :: xG) := fun w hw => List.mem_cons_of_mem _ hw
  refine xrun_sound (nst := 0) (isInit := false) (kd := kdX11) X (xcls_mono hT xclsG) (xpool_mono hT plX11) (fun z => by cases z) (fun idx v hf => xkoE_mono hT (koX11_ok _ (xfind_mem hf))) (xents (ca := _) ?_) (endZ hE).1 (endZ hE).2 (xcuts (cu := _) ?_) pr_X11_close.1 pr_X11_close.2 _ _ _ _ _ _ _ _ (xat_ok pr_X11_close.1 pr_X11_close.2).1 (xat_ok pr_X11_close.1 pr_X11_close.2).2.1 (xat_ok pr_X11_close.1 pr_X11_close.2).2.2 h
  · exact (List.forall_mem_cons.mpr ⟨(xent_met X (ci := 2) hT cd_X2_closeFile lk_X11_191 rfl (by decide) rfl (by decide +kernel) (fun z => absurd z (by decide)) (hw_X2_closeFile l D cA sA fu 0) (fun _ => ⟨by decide, fun _ => ⟨TX2, 16, rfl⟩⟩) (by constructor <;> omega) (by decide)), (fun _ h => nomatch h)⟩)
  · exact (fun _ h => nomatch h)

theorem ok_X11_close (l : Launch) (D : va_G) (cA : Nat → ClassId) (sA : Nat → Nat) (fu : Nat) (s : Nat) (x1 : Int32) (M : xM) {rr : Int32 × xM} (h : F_X11_close fu s x1 M = some rr) : xMet l D cA sA yX11_close cX11_close 2 (some .boolean) xG (2 + 1) 0 0 [.inr (.inr (11, some s)), .inl x1] M (some (.inl rr.1)) rr.2 :=
  xmet_of (by decide +kernel) (Nat.le_of_ble_eq_true rfl) (fun p e s1 m ag below meth c0 A0 ad0 Z X hn hE => wx_X11_close X hn ⟨Nat.le_refl _, Nat.le_refl _⟩ hE fu s x1 M h)
theorem hw_X11_close (l : Launch) (D : va_G) (cA : Nat → ClassId) (sA : Nat → Nat) (fu : Nat) {ρ : Type} {r0 : ρ} (kd1 : Nat) : ∀ (as : List xV) (M : xM) (k : Option xV → xM → Option ρ), w_X11_close fu as M k = some r0 → ∃ v M', xMet l D cA sA yX11_close cX11_close 2 (some .boolean) xG (2 + 1) 0 0 as M v M' ∧ k v M' = some r0 ∧ (kd1 ≠ 2 → ∃ a as', as = .inr (.inr (11, some a)) :: as') := by
  intro as M k h
  unfold w_X11_close at h
  replace h := pR_some h
  obtain ⟨o, as1, rfl, h⟩ := h
  replace h := bd_some h
  obtain ⟨s, rfl, h⟩ := h
  replace h := pI_some h
  obtain ⟨x1, as1, rfl, h⟩ := h
  replace h := xe_some h
  obtain ⟨rfl, h⟩ := h
  obtain ⟨p1, hp, h⟩ := Option.bind_eq_some_iff.mp h
  exact ⟨_, _, ok_X11_close l D cA sA fu s x1 M hp, h, fun _ => ⟨_, _, rfl⟩⟩
theorem lk_X11_198 : xLink xG RX11 198 0 yX2_collectBlock 0 := ⟨Or.inl (xg 1149 (by decide +kernel) (by decide +kernel)), (xg 1010 (by decide +kernel) (by decide +kernel)), (xg 1011 (by decide +kernel) (by decide +kernel)), (xg 134 (by decide +kernel) (by decide +kernel)), ⟨2, by decide, TX2, 16, rfl⟩⟩
theorem cd_X11_collect : Cond.code yX11_collect cX11_collect 1 (some .int) ∈ xG := (xg 1148 (by decide +kernel) (by decide +kernel))
theorem pr_X11_collect : (∀ e ∈ pX11_collect, xrow cX11_collect 1 kdX11 flX11 0 false RX11 e) ∧ xnext pX11_collect = true := xrows (by decide +kernel)
set_option maxRecDepth 100000 in
theorem wx_X11_collect (X : xCtx p R S0 m ag c0 D cA A0 sA 1 cX11_collect RX11 (.code yX11_collect cX11_collect 1 (some .int) :: xG) 0 0) (hi : meth.name = yX11_collect.name) (hroom : 9 + 2 ≤ R.frames ∧ 60 * (9 + 2) ≤ R.locals) {rr : Int32 × xM} (hE : xEnd l D cA sA cX11_collect 1 (some .int) R 0 0 (some (.inl rr.1)) rr.2 p e S0 m ag below meth c0 A0 M0 ad0 Z) (fu : Nat) (s : Nat) (M : xM) (h : F_X11_collect fu s M = some rr) : xWx p l e R S0 m ag below meth c0 D cA A0 sA M0 ad0 1 Z 0 0 0 0 0 [(0, .inr (.inr (11, some s)))] [] M := by
  rw [← q_X11_collect fu s M] at h
  have hT : ∀ w ∈ xG, w ∈ (Cond.code yX11_collect cX11_collect 1 (some .int) :: xG) := fun w hw => List.mem_cons_of_mem _ hw
  refine xrun_sound (nst := 0) (isInit := false) (kd := kdX11) X (xcls_mono hT xclsG) (xpool_mono hT plX11) (fun z => by cases z) (fun idx v hf => xkoE_mono hT (koX11_ok _ (xfind_mem hf))) (xents (ca := _) ?_) (endI hE).1 (endI hE).2 (xcuts (cu := _) ?_) pr_X11_collect.1 pr_X11_collect.2 _ _ _ _ _ _ _ _ (xat_ok pr_X11_collect.1 pr_X11_collect.2).1 (xat_ok pr_X11_collect.1 pr_X11_collect.2).2.1 (xat_ok pr_X11_collect.1 pr_X11_collect.2).2.2 h
  · exact (List.forall_mem_cons.mpr ⟨(xent_met X (ci := 2) hT cd_X2_collectBlock lk_X11_198 rfl (by decide) rfl (by decide +kernel) (fun z => absurd z (by decide)) (hw_X2_collectBlock l D cA sA fu 0) (fun _ => ⟨by decide, fun _ => ⟨TX2, 16, rfl⟩⟩) (by constructor <;> omega) (by decide)), (fun _ h => nomatch h)⟩)
  · exact (fun _ h => nomatch h)

theorem ok_X11_collect (l : Launch) (D : va_G) (cA : Nat → ClassId) (sA : Nat → Nat) (fu : Nat) (s : Nat) (M : xM) {rr : Int32 × xM} (h : F_X11_collect fu s M = some rr) : xMet l D cA sA yX11_collect cX11_collect 1 (some .int) xG (9 + 1) 0 0 [.inr (.inr (11, some s))] M (some (.inl rr.1)) rr.2 :=
  xmet_of (by decide +kernel) (Nat.le_of_ble_eq_true rfl) (fun p e s1 m ag below meth c0 A0 ad0 Z X hn hE => wx_X11_collect X hn ⟨Nat.le_refl _, Nat.le_refl _⟩ hE fu s M h)
theorem hw_X11_collect (l : Launch) (D : va_G) (cA : Nat → ClassId) (sA : Nat → Nat) (fu : Nat) {ρ : Type} {r0 : ρ} (kd1 : Nat) : ∀ (as : List xV) (M : xM) (k : Option xV → xM → Option ρ), w_X11_collect fu as M k = some r0 → ∃ v M', xMet l D cA sA yX11_collect cX11_collect 1 (some .int) xG (9 + 1) 0 0 as M v M' ∧ k v M' = some r0 ∧ (kd1 ≠ 2 → ∃ a as', as = .inr (.inr (11, some a)) :: as') := by
  intro as M k h
  unfold w_X11_collect at h
  replace h := pR_some h
  obtain ⟨o, as1, rfl, h⟩ := h
  replace h := bd_some h
  obtain ⟨s, rfl, h⟩ := h
  replace h := xe_some h
  obtain ⟨rfl, h⟩ := h
  obtain ⟨p1, hp, h⟩ := Option.bind_eq_some_iff.mp h
  exact ⟨_, _, ok_X11_collect l D cA sA fu s M hp, h, fun _ => ⟨_, _, rfl⟩⟩
theorem lk_X11_194 : xLink xG RX11 194 0 yX2_commitPages 0 := ⟨Or.inl (xg 1144 (by decide +kernel) (by decide +kernel)), (xg 1093 (by decide +kernel) (by decide +kernel)), (xg 1094 (by decide +kernel) (by decide +kernel)), (xg 134 (by decide +kernel) (by decide +kernel)), ⟨2, by decide, TX2, 16, rfl⟩⟩
theorem cd_X11_commit : Cond.code yX11_commit cX11_commit 1 (some .int) ∈ xG := (xg 1143 (by decide +kernel) (by decide +kernel))
theorem pr_X11_commit : (∀ e ∈ pX11_commit, xrow cX11_commit 1 kdX11 flX11 0 false RX11 e) ∧ xnext pX11_commit = true := xrows (by decide +kernel)
set_option maxRecDepth 100000 in
theorem wx_X11_commit (X : xCtx p R S0 m ag c0 D cA A0 sA 1 cX11_commit RX11 (.code yX11_commit cX11_commit 1 (some .int) :: xG) 0 0) (hi : meth.name = yX11_commit.name) (hroom : 9 + 2 ≤ R.frames ∧ 60 * (9 + 2) ≤ R.locals) {rr : Int32 × xM} (hE : xEnd l D cA sA cX11_commit 1 (some .int) R 0 0 (some (.inl rr.1)) rr.2 p e S0 m ag below meth c0 A0 M0 ad0 Z) (fu : Nat) (s : Nat) (M : xM) (h : F_X11_commit fu s M = some rr) : xWx p l e R S0 m ag below meth c0 D cA A0 sA M0 ad0 1 Z 0 0 0 0 0 [(0, .inr (.inr (11, some s)))] [] M := by
  rw [← q_X11_commit fu s M] at h
  have hT : ∀ w ∈ xG, w ∈ (Cond.code yX11_commit cX11_commit 1 (some .int) :: xG) := fun w hw => List.mem_cons_of_mem _ hw
  refine xrun_sound (nst := 0) (isInit := false) (kd := kdX11) X (xcls_mono hT xclsG) (xpool_mono hT plX11) (fun z => by cases z) (fun idx v hf => xkoE_mono hT (koX11_ok _ (xfind_mem hf))) (xents (ca := _) ?_) (endI hE).1 (endI hE).2 (xcuts (cu := _) ?_) pr_X11_commit.1 pr_X11_commit.2 _ _ _ _ _ _ _ _ (xat_ok pr_X11_commit.1 pr_X11_commit.2).1 (xat_ok pr_X11_commit.1 pr_X11_commit.2).2.1 (xat_ok pr_X11_commit.1 pr_X11_commit.2).2.2 h
  · exact (List.forall_mem_cons.mpr ⟨(xent_met X (ci := 2) hT cd_X2_commitPages lk_X11_194 rfl (by decide) rfl (by decide +kernel) (fun z => absurd z (by decide)) (hw_X2_commitPages l D cA sA fu 0) (fun _ => ⟨by decide, fun _ => ⟨TX2, 16, rfl⟩⟩) (by constructor <;> omega) (by decide)), (fun _ h => nomatch h)⟩)
  · exact (fun _ h => nomatch h)

theorem ok_X11_commit (l : Launch) (D : va_G) (cA : Nat → ClassId) (sA : Nat → Nat) (fu : Nat) (s : Nat) (M : xM) {rr : Int32 × xM} (h : F_X11_commit fu s M = some rr) : xMet l D cA sA yX11_commit cX11_commit 1 (some .int) xG (9 + 1) 0 0 [.inr (.inr (11, some s))] M (some (.inl rr.1)) rr.2 :=
  xmet_of (by decide +kernel) (Nat.le_of_ble_eq_true rfl) (fun p e s1 m ag below meth c0 A0 ad0 Z X hn hE => wx_X11_commit X hn ⟨Nat.le_refl _, Nat.le_refl _⟩ hE fu s M h)
theorem hw_X11_commit (l : Launch) (D : va_G) (cA : Nat → ClassId) (sA : Nat → Nat) (fu : Nat) {ρ : Type} {r0 : ρ} (kd1 : Nat) : ∀ (as : List xV) (M : xM) (k : Option xV → xM → Option ρ), w_X11_commit fu as M k = some r0 → ∃ v M', xMet l D cA sA yX11_commit cX11_commit 1 (some .int) xG (9 + 1) 0 0 as M v M' ∧ k v M' = some r0 ∧ (kd1 ≠ 2 → ∃ a as', as = .inr (.inr (11, some a)) :: as') := by
  intro as M k h
  unfold w_X11_commit at h
  replace h := pR_some h
  obtain ⟨o, as1, rfl, h⟩ := h
  replace h := bd_some h
  obtain ⟨s, rfl, h⟩ := h
  replace h := xe_some h
  obtain ⟨rfl, h⟩ := h
  obtain ⟨p1, hp, h⟩ := Option.bind_eq_some_iff.mp h
  exact ⟨_, _, ok_X11_commit l D cA sA fu s M hp, h, fun _ => ⟨_, _, rfl⟩⟩
theorem cd_X11_copies : Cond.code yX11_copies cX11_copies 3 (some .int) ∈ xG := (xg 1321 (by decide +kernel) (by decide +kernel))
theorem pr_X11_copies : (∀ e ∈ pX11_copies, xrow cX11_copies 3 kdX11 flX11 0 false RX11 e) ∧ xnext pX11_copies = true := xrows (by decide +kernel)
set_option maxRecDepth 100000 in
theorem wx_X11_copies (X : xCtx p R S0 m ag c0 D cA A0 sA 3 cX11_copies RX11 (.code yX11_copies cX11_copies 3 (some .int) :: xG) 0 0) (hi : meth.name = yX11_copies.name) (hroom : 2 + 2 ≤ R.frames ∧ 60 * (2 + 2) ≤ R.locals) {rr : Int32 × xM} (hE : xEnd l D cA sA cX11_copies 3 (some .int) R 0 0 (some (.inl rr.1)) rr.2 p e S0 m ag below meth c0 A0 M0 ad0 Z) (fu : Nat) (s : Nat) (x1 : Int32) (x2 : Int32) (M : xM) (h : F_X11_copies fu s x1 x2 M = some rr) : xWx p l e R S0 m ag below meth c0 D cA A0 sA M0 ad0 3 Z 0 0 0 0 0 [(0, .inr (.inr (11, some s))), (1, .inl x1), (2, .inl x2)] [] M := by
  rw [← q_X11_copies fu s x1 x2 M] at h
  have hT : ∀ w ∈ xG, w ∈ (Cond.code yX11_copies cX11_copies 3 (some .int) :: xG) := fun w hw => List.mem_cons_of_mem _ hw
  refine xrun_sound (nst := 0) (isInit := false) (kd := kdX11) X (xcls_mono hT xclsG) (xpool_mono hT plX11) (fun z => by cases z) (fun idx v hf => xkoE_mono hT (koX11_ok _ (xfind_mem hf))) (xents (ca := _) ?_) (endI hE).1 (endI hE).2 (xcuts (cu := _) ?_) pr_X11_copies.1 pr_X11_copies.2 _ _ _ _ _ _ _ _ (xat_ok pr_X11_copies.1 pr_X11_copies.2).1 (xat_ok pr_X11_copies.1 pr_X11_copies.2).2.1 (xat_ok pr_X11_copies.1 pr_X11_copies.2).2.2 h
  · exact (List.forall_mem_cons.mpr ⟨(xent_met X (ci := 7) hT cd_X7_isPage lk_X11_213 rfl (by decide) rfl (by decide +kernel) (fun z => absurd z (by decide)) (hw_X7_isPage l D cA sA fu 0) (fun _ => ⟨by decide, fun _ => ⟨TX7, 9, rfl⟩⟩) (by constructor <;> omega) (by decide)), (List.forall_mem_cons.mpr ⟨(xent_met X (ci := 0) hT cd_X0_countData lk_X11_278 rfl (by decide) rfl (by decide +kernel) (fun z => absurd z (by decide)) (hw_X0_countData l D cA sA fu 0) (fun _ => ⟨by decide, fun _ => ⟨TX0, 16, rfl⟩⟩) (by constructor <;> omega) (by decide)), (fun _ h => nomatch h)⟩)⟩)
  · exact (fun _ h => nomatch h)

theorem ok_X11_copies (l : Launch) (D : va_G) (cA : Nat → ClassId) (sA : Nat → Nat) (fu : Nat) (s : Nat) (x1 : Int32) (x2 : Int32) (M : xM) {rr : Int32 × xM} (h : F_X11_copies fu s x1 x2 M = some rr) : xMet l D cA sA yX11_copies cX11_copies 3 (some .int) xG (2 + 1) 0 0 [.inr (.inr (11, some s)), .inl x1, .inl x2] M (some (.inl rr.1)) rr.2 :=
  xmet_of (by decide +kernel) (Nat.le_of_ble_eq_true rfl) (fun p e s1 m ag below meth c0 A0 ad0 Z X hn hE => wx_X11_copies X hn ⟨Nat.le_refl _, Nat.le_refl _⟩ hE fu s x1 x2 M h)
theorem hw_X11_copies (l : Launch) (D : va_G) (cA : Nat → ClassId) (sA : Nat → Nat) (fu : Nat) {ρ : Type} {r0 : ρ} (kd1 : Nat) : ∀ (as : List xV) (M : xM) (k : Option xV → xM → Option ρ), w_X11_copies fu as M k = some r0 → ∃ v M', xMet l D cA sA yX11_copies cX11_copies 3 (some .int) xG (2 + 1) 0 0 as M v M' ∧ k v M' = some r0 ∧ (kd1 ≠ 2 → ∃ a as', as = .inr (.inr (11, some a)) :: as') := by
  intro as M k h
  unfold w_X11_copies at h
  replace h := pR_some h
  obtain ⟨o, as1, rfl, h⟩ := h
  replace h := bd_some h
  obtain ⟨s, rfl, h⟩ := h
  replace h := pI_some h
  obtain ⟨x1, as1, rfl, h⟩ := h
  replace h := pI_some h
  obtain ⟨x2, as1, rfl, h⟩ := h
  replace h := xe_some h
  obtain ⟨rfl, h⟩ := h
  obtain ⟨p1, hp, h⟩ := Option.bind_eq_some_iff.mp h
  exact ⟨_, _, ok_X11_copies l D cA sA fu s x1 x2 M hp, h, fun _ => ⟨_, _, rfl⟩⟩
theorem lk_X2_299 : xLink xG RX2 299 0 yX2_mappedPages 0 := ⟨Or.inl (xg 1433 (by decide +kernel) (by decide +kernel)), (xg 1413 (by decide +kernel) (by decide +kernel)), (xg 1414 (by decide +kernel) (by decide +kernel)), (xg 134 (by decide +kernel) (by decide +kernel)), ⟨2, by decide, TX2, 16, rfl⟩⟩
theorem cd_X2_tell : Cond.code yX2_tell cX2_tell 2 (some .int) ∈ xG := (xg 1432 (by decide +kernel) (by decide +kernel))
theorem pr_X2_tell : (∀ e ∈ pX2_tell, xrow cX2_tell 2 kdX2 flX2 0 false RX2 e) ∧ xnext pX2_tell = true := xrows (by decide +kernel)
set_option maxRecDepth 100000 in
theorem wx_X2_tell (X : xCtx p R S0 m ag c0 D cA A0 sA 2 cX2_tell RX2 (.code yX2_tell cX2_tell 2 (some .int) :: xG) 0 0) (hi : meth.name = yX2_tell.name) (hroom : 3 + 2 ≤ R.frames ∧ 60 * (3 + 2) ≤ R.locals) {rr : Int32 × xM} (hE : xEnd l D cA sA cX2_tell 2 (some .int) R 0 0 (some (.inl rr.1)) rr.2 p e S0 m ag below meth c0 A0 M0 ad0 Z) (fu : Nat) (s : Nat) (x1 : Int32) (M : xM) (h : F_X2_tell fu s x1 M = some rr) : xWx p l e R S0 m ag below meth c0 D cA A0 sA M0 ad0 2 Z 0 0 0 0 0 [(0, .inr (.inr (2, some s))), (1, .inl x1)] [] M := by
  rw [← q_X2_tell fu s x1 M] at h
  have hT : ∀ w ∈ xG, w ∈ (Cond.code yX2_tell cX2_tell 2 (some .int) :: xG) := fun w hw => List.mem_cons_of_mem _ hw
  refine xrun_sound (nst := 0) (isInit := false) (kd := kdX2) X (xcls_mono hT xclsG) (xpool_mono hT plX2) (fun z => by cases z) (fun idx v hf => xkoE_mono hT (koX2_ok _ (xfind_mem hf))) (xents (ca := _) ?_) (endI hE).1 (endI hE).2 (xcuts (cu := _) ?_) pr_X2_tell.1 pr_X2_tell.2 _ _ _ _ _ _ _ _ (xat_ok pr_X2_tell.1 pr_X2_tell.2).1 (xat_ok pr_X2_tell.1 pr_X2_tell.2).2.1 (xat_ok pr_X2_tell.1 pr_X2_tell.2).2.2 h
  · exact (List.forall_mem_cons.mpr ⟨(xent_met X (ci := 2) hT cd_X2_survey lk_X2_174 rfl (by decide) rfl (by decide +kernel) (fun z => absurd z (by decide)) (hw_X2_survey l D cA sA fu 0) (fun _ => ⟨by decide, fun _ => ⟨TX2, 16, rfl⟩⟩) (by constructor <;> omega) (by decide)), (List.forall_mem_cons.mpr ⟨(xent_met X (ci := 2) hT cd_X2_parts lk_X2_205 rfl (by decide) rfl (by decide +kernel) (fun z => absurd z (by decide)) (hw_X2_parts l D cA sA fu 0) (fun _ => ⟨by decide, fun _ => ⟨TX2, 16, rfl⟩⟩) (by constructor <;> omega) (by decide)), (List.forall_mem_cons.mpr ⟨(xent_met X (ci := 2) hT cd_X2_mappedPages lk_X2_299 rfl (by decide) rfl (by decide +kernel) (fun z => absurd z (by decide)) (hw_X2_mappedPages l D cA sA fu 0) (fun _ => ⟨by decide, fun _ => ⟨TX2, 16, rfl⟩⟩) (by constructor <;> omega) (by decide)), (fun _ h => nomatch h)⟩)⟩)⟩)
  · exact (fun _ h => nomatch h)

theorem ok_X2_tell (l : Launch) (D : va_G) (cA : Nat → ClassId) (sA : Nat → Nat) (fu : Nat) (s : Nat) (x1 : Int32) (M : xM) {rr : Int32 × xM} (h : F_X2_tell fu s x1 M = some rr) : xMet l D cA sA yX2_tell cX2_tell 2 (some .int) xG (3 + 1) 0 0 [.inr (.inr (2, some s)), .inl x1] M (some (.inl rr.1)) rr.2 :=
  xmet_of (by decide +kernel) (Nat.le_of_ble_eq_true rfl) (fun p e s1 m ag below meth c0 A0 ad0 Z X hn hE => wx_X2_tell X hn ⟨Nat.le_refl _, Nat.le_refl _⟩ hE fu s x1 M h)
theorem hw_X2_tell (l : Launch) (D : va_G) (cA : Nat → ClassId) (sA : Nat → Nat) (fu : Nat) {ρ : Type} {r0 : ρ} (kd1 : Nat) : ∀ (as : List xV) (M : xM) (k : Option xV → xM → Option ρ), w_X2_tell fu as M k = some r0 → ∃ v M', xMet l D cA sA yX2_tell cX2_tell 2 (some .int) xG (3 + 1) 0 0 as M v M' ∧ k v M' = some r0 ∧ (kd1 ≠ 2 → ∃ a as', as = .inr (.inr (2, some a)) :: as') := by
  intro as M k h
  unfold w_X2_tell at h
  replace h := pR_some h
  obtain ⟨o, as1, rfl, h⟩ := h
  replace h := bd_some h
  obtain ⟨s, rfl, h⟩ := h
  replace h := pI_some h
  obtain ⟨x1, as1, rfl, h⟩ := h
  replace h := xe_some h
  obtain ⟨rfl, h⟩ := h
  obtain ⟨p1, hp, h⟩ := Option.bind_eq_some_iff.mp h
  exact ⟨_, _, ok_X2_tell l D cA sA fu s x1 M hp, h, fun _ => ⟨_, _, rfl⟩⟩
theorem lk_X11_343 : xLink xG RX11 343 0 yX2_tell 1 := ⟨Or.inl (xg 1429 (by decide +kernel) (by decide +kernel)), (xg 1430 (by decide +kernel) (by decide +kernel)), (xg 1431 (by decide +kernel) (by decide +kernel)), (xg 134 (by decide +kernel) (by decide +kernel)), ⟨2, by decide, TX2, 16, rfl⟩⟩
theorem cd_X11_count : Cond.code yX11_count cX11_count 2 (some .int) ∈ xG := (xg 1428 (by decide +kernel) (by decide +kernel))
theorem pr_X11_count : (∀ e ∈ pX11_count, xrow cX11_count 2 kdX11 flX11 0 false RX11 e) ∧ xnext pX11_count = true := xrows (by decide +kernel)
set_option maxRecDepth 100000 in
theorem wx_X11_count (X : xCtx p R S0 m ag c0 D cA A0 sA 2 cX11_count RX11 (.code yX11_count cX11_count 2 (some .int) :: xG) 0 0) (hi : meth.name = yX11_count.name) (hroom : 4 + 2 ≤ R.frames ∧ 60 * (4 + 2) ≤ R.locals) {rr : Int32 × xM} (hE : xEnd l D cA sA cX11_count 2 (some .int) R 0 0 (some (.inl rr.1)) rr.2 p e S0 m ag below meth c0 A0 M0 ad0 Z) (fu : Nat) (s : Nat) (x1 : Int32) (M : xM) (h : F_X11_count fu s x1 M = some rr) : xWx p l e R S0 m ag below meth c0 D cA A0 sA M0 ad0 2 Z 0 0 0 0 0 [(0, .inr (.inr (11, some s))), (1, .inl x1)] [] M := by
  rw [← q_X11_count fu s x1 M] at h
  have hT : ∀ w ∈ xG, w ∈ (Cond.code yX11_count cX11_count 2 (some .int) :: xG) := fun w hw => List.mem_cons_of_mem _ hw
  refine xrun_sound (nst := 0) (isInit := false) (kd := kdX11) X (xcls_mono hT xclsG) (xpool_mono hT plX11) (fun z => by cases z) (fun idx v hf => xkoE_mono hT (koX11_ok _ (xfind_mem hf))) (xents (ca := _) ?_) (endI hE).1 (endI hE).2 (xcuts (cu := _) ?_) pr_X11_count.1 pr_X11_count.2 _ _ _ _ _ _ _ _ (xat_ok pr_X11_count.1 pr_X11_count.2).1 (xat_ok pr_X11_count.1 pr_X11_count.2).2.1 (xat_ok pr_X11_count.1 pr_X11_count.2).2.2 h
  · exact (List.forall_mem_cons.mpr ⟨(xent_met X (ci := 2) hT cd_X2_tell lk_X11_343 rfl (by decide) rfl (by decide +kernel) (fun z => absurd z (by decide)) (hw_X2_tell l D cA sA fu 0) (fun _ => ⟨by decide, fun _ => ⟨TX2, 16, rfl⟩⟩) (by constructor <;> omega) (by decide)), (fun _ h => nomatch h)⟩)
  · exact (fun _ h => nomatch h)

theorem ok_X11_count (l : Launch) (D : va_G) (cA : Nat → ClassId) (sA : Nat → Nat) (fu : Nat) (s : Nat) (x1 : Int32) (M : xM) {rr : Int32 × xM} (h : F_X11_count fu s x1 M = some rr) : xMet l D cA sA yX11_count cX11_count 2 (some .int) xG (4 + 1) 0 0 [.inr (.inr (11, some s)), .inl x1] M (some (.inl rr.1)) rr.2 :=
  xmet_of (by decide +kernel) (Nat.le_of_ble_eq_true rfl) (fun p e s1 m ag below meth c0 A0 ad0 Z X hn hE => wx_X11_count X hn ⟨Nat.le_refl _, Nat.le_refl _⟩ hE fu s x1 M h)
theorem hw_X11_count (l : Launch) (D : va_G) (cA : Nat → ClassId) (sA : Nat → Nat) (fu : Nat) {ρ : Type} {r0 : ρ} (kd1 : Nat) : ∀ (as : List xV) (M : xM) (k : Option xV → xM → Option ρ), w_X11_count fu as M k = some r0 → ∃ v M', xMet l D cA sA yX11_count cX11_count 2 (some .int) xG (4 + 1) 0 0 as M v M' ∧ k v M' = some r0 ∧ (kd1 ≠ 2 → ∃ a as', as = .inr (.inr (11, some a)) :: as') := by
  intro as M k h
  unfold w_X11_count at h
  replace h := pR_some h
  obtain ⟨o, as1, rfl, h⟩ := h
  replace h := bd_some h
  obtain ⟨s, rfl, h⟩ := h
  replace h := pI_some h
  obtain ⟨x1, as1, rfl, h⟩ := h
  replace h := xe_some h
  obtain ⟨rfl, h⟩ := h
  obtain ⟨p1, hp, h⟩ := Option.bind_eq_some_iff.mp h
  exact ⟨_, _, ok_X11_count l D cA sA fu s x1 M hp, h, fun _ => ⟨_, _, rfl⟩⟩
theorem cd_X2_cutAt : Cond.code yX2_cutAt cX2_cutAt 2 (some .boolean) ∈ xG := (xg 1157 (by decide +kernel) (by decide +kernel))
theorem pr_X2_cutAt : (∀ e ∈ pX2_cutAt, xrow cX2_cutAt 2 kdX2 flX2 0 false RX2 e) ∧ xnext pX2_cutAt = true := xrows (by decide +kernel)
set_option maxRecDepth 100000 in
theorem wx_X2_cutAt (X : xCtx p R S0 m ag c0 D cA A0 sA 2 cX2_cutAt RX2 (.code yX2_cutAt cX2_cutAt 2 (some .boolean) :: xG) 0 0) (hi : meth.name = yX2_cutAt.name) (hroom : 0 + 2 ≤ R.frames ∧ 60 * (0 + 2) ≤ R.locals) {rr : Int32 × xM} (hE : xEnd l D cA sA cX2_cutAt 2 (some .boolean) R 0 0 (some (.inl rr.1)) rr.2 p e S0 m ag below meth c0 A0 M0 ad0 Z) (fu : Nat) (s : Nat) (x1 : Int32) (M : xM) (h : F_X2_cutAt fu s x1 M = some rr) : xWx p l e R S0 m ag below meth c0 D cA A0 sA M0 ad0 2 Z 0 0 0 0 0 [(0, .inr (.inr (2, some s))), (1, .inl x1)] [] M := by
  rw [← q_X2_cutAt fu s x1 M] at h
  have hT : ∀ w ∈ xG, w ∈ (Cond.code yX2_cutAt cX2_cutAt 2 (some .boolean) :: xG) := fun w hw => List.mem_cons_of_mem _ hw
  refine xrun_sound (nst := 0) (isInit := false) (kd := kdX2) X (xcls_mono hT xclsG) (xpool_mono hT plX2) (fun z => by cases z) (fun idx v hf => xkoE_mono hT (koX2_ok _ (xfind_mem hf))) (xents (ca := _) ?_) (endZ hE).1 (endZ hE).2 (xcuts (cu := _) ?_) pr_X2_cutAt.1 pr_X2_cutAt.2 _ _ _ _ _ _ _ _ (xat_ok pr_X2_cutAt.1 pr_X2_cutAt.2).1 (xat_ok pr_X2_cutAt.1 pr_X2_cutAt.2).2.1 (xat_ok pr_X2_cutAt.1 pr_X2_cutAt.2).2.2 h
  · exact (fun _ h => nomatch h)
  · exact (fun _ h => nomatch h)

theorem ok_X2_cutAt (l : Launch) (D : va_G) (cA : Nat → ClassId) (sA : Nat → Nat) (fu : Nat) (s : Nat) (x1 : Int32) (M : xM) {rr : Int32 × xM} (h : F_X2_cutAt fu s x1 M = some rr) : xMet l D cA sA yX2_cutAt cX2_cutAt 2 (some .boolean) xG (0 + 1) 0 0 [.inr (.inr (2, some s)), .inl x1] M (some (.inl rr.1)) rr.2 :=
  xmet_of (by decide +kernel) (Nat.le_of_ble_eq_true rfl) (fun p e s1 m ag below meth c0 A0 ad0 Z X hn hE => wx_X2_cutAt X hn ⟨Nat.le_refl _, Nat.le_refl _⟩ hE fu s x1 M h)
theorem hw_X2_cutAt (l : Launch) (D : va_G) (cA : Nat → ClassId) (sA : Nat → Nat) (fu : Nat) {ρ : Type} {r0 : ρ} (kd1 : Nat) : ∀ (as : List xV) (M : xM) (k : Option xV → xM → Option ρ), w_X2_cutAt fu as M k = some r0 → ∃ v M', xMet l D cA sA yX2_cutAt cX2_cutAt 2 (some .boolean) xG (0 + 1) 0 0 as M v M' ∧ k v M' = some r0 ∧ (kd1 ≠ 2 → ∃ a as', as = .inr (.inr (2, some a)) :: as') := by
  intro as M k h
  unfold w_X2_cutAt at h
  replace h := pR_some h
  obtain ⟨o, as1, rfl, h⟩ := h
  replace h := bd_some h
  obtain ⟨s, rfl, h⟩ := h
  replace h := pI_some h
  obtain ⟨x1, as1, rfl, h⟩ := h
  replace h := xe_some h
  obtain ⟨rfl, h⟩ := h
  obtain ⟨p1, hp, h⟩ := Option.bind_eq_some_iff.mp h
  exact ⟨_, _, ok_X2_cutAt l D cA sA fu s x1 M hp, h, fun _ => ⟨_, _, rfl⟩⟩
theorem lk_X11_201 : xLink xG RX11 201 0 yX2_cutAt 1 := ⟨Or.inl (xg 1154 (by decide +kernel) (by decide +kernel)), (xg 1155 (by decide +kernel) (by decide +kernel)), (xg 1156 (by decide +kernel) (by decide +kernel)), (xg 134 (by decide +kernel) (by decide +kernel)), ⟨2, by decide, TX2, 16, rfl⟩⟩
theorem cd_X11_cut : Cond.code yX11_cut cX11_cut 2 (some .boolean) ∈ xG := (xg 1153 (by decide +kernel) (by decide +kernel))
theorem pr_X11_cut : (∀ e ∈ pX11_cut, xrow cX11_cut 2 kdX11 flX11 0 false RX11 e) ∧ xnext pX11_cut = true := xrows (by decide +kernel)
set_option maxRecDepth 100000 in
theorem wx_X11_cut (X : xCtx p R S0 m ag c0 D cA A0 sA 2 cX11_cut RX11 (.code yX11_cut cX11_cut 2 (some .boolean) :: xG) 0 0) (hi : meth.name = yX11_cut.name) (hroom : 1 + 2 ≤ R.frames ∧ 60 * (1 + 2) ≤ R.locals) {rr : Int32 × xM} (hE : xEnd l D cA sA cX11_cut 2 (some .boolean) R 0 0 (some (.inl rr.1)) rr.2 p e S0 m ag below meth c0 A0 M0 ad0 Z) (fu : Nat) (s : Nat) (x1 : Int32) (M : xM) (h : F_X11_cut fu s x1 M = some rr) : xWx p l e R S0 m ag below meth c0 D cA A0 sA M0 ad0 2 Z 0 0 0 0 0 [(0, .inr (.inr (11, some s))), (1, .inl x1)] [] M := by
  rw [← q_X11_cut fu s x1 M] at h
  have hT : ∀ w ∈ xG, w ∈ (Cond.code yX11_cut cX11_cut 2 (some .boolean) :: xG) := fun w hw => List.mem_cons_of_mem _ hw
  refine xrun_sound (nst := 0) (isInit := false) (kd := kdX11) X (xcls_mono hT xclsG) (xpool_mono hT plX11) (fun z => by cases z) (fun idx v hf => xkoE_mono hT (koX11_ok _ (xfind_mem hf))) (xents (ca := _) ?_) (endZ hE).1 (endZ hE).2 (xcuts (cu := _) ?_) pr_X11_cut.1 pr_X11_cut.2 _ _ _ _ _ _ _ _ (xat_ok pr_X11_cut.1 pr_X11_cut.2).1 (xat_ok pr_X11_cut.1 pr_X11_cut.2).2.1 (xat_ok pr_X11_cut.1 pr_X11_cut.2).2.2 h
  · exact (List.forall_mem_cons.mpr ⟨(xent_met X (ci := 2) hT cd_X2_cutAt lk_X11_201 rfl (by decide) rfl (by decide +kernel) (fun z => absurd z (by decide)) (hw_X2_cutAt l D cA sA fu 0) (fun _ => ⟨by decide, fun _ => ⟨TX2, 16, rfl⟩⟩) (by constructor <;> omega) (by decide)), (fun _ h => nomatch h)⟩)
  · exact (fun _ h => nomatch h)

theorem ok_X11_cut (l : Launch) (D : va_G) (cA : Nat → ClassId) (sA : Nat → Nat) (fu : Nat) (s : Nat) (x1 : Int32) (M : xM) {rr : Int32 × xM} (h : F_X11_cut fu s x1 M = some rr) : xMet l D cA sA yX11_cut cX11_cut 2 (some .boolean) xG (1 + 1) 0 0 [.inr (.inr (11, some s)), .inl x1] M (some (.inl rr.1)) rr.2 :=
  xmet_of (by decide +kernel) (Nat.le_of_ble_eq_true rfl) (fun p e s1 m ag below meth c0 A0 ad0 Z X hn hE => wx_X11_cut X hn ⟨Nat.le_refl _, Nat.le_refl _⟩ hE fu s x1 M h)
theorem hw_X11_cut (l : Launch) (D : va_G) (cA : Nat → ClassId) (sA : Nat → Nat) (fu : Nat) {ρ : Type} {r0 : ρ} (kd1 : Nat) : ∀ (as : List xV) (M : xM) (k : Option xV → xM → Option ρ), w_X11_cut fu as M k = some r0 → ∃ v M', xMet l D cA sA yX11_cut cX11_cut 2 (some .boolean) xG (1 + 1) 0 0 as M v M' ∧ k v M' = some r0 ∧ (kd1 ≠ 2 → ∃ a as', as = .inr (.inr (11, some a)) :: as') := by
  intro as M k h
  unfold w_X11_cut at h
  replace h := pR_some h
  obtain ⟨o, as1, rfl, h⟩ := h
  replace h := bd_some h
  obtain ⟨s, rfl, h⟩ := h
  replace h := pI_some h
  obtain ⟨x1, as1, rfl, h⟩ := h
  replace h := xe_some h
  obtain ⟨rfl, h⟩ := h
  obtain ⟨p1, hp, h⟩ := Option.bind_eq_some_iff.mp h
  exact ⟨_, _, ok_X11_cut l D cA sA fu s x1 M hp, h, fun _ => ⟨_, _, rfl⟩⟩
theorem cd_X1_fit : Cond.code yX1_fit cX1_fit 5 (some .boolean) ∈ xG := (xg 1371 (by decide +kernel) (by decide +kernel))
theorem pr_X1_fit : (∀ e ∈ pX1_fit, xrow cX1_fit 5 kdX1 flX1 0 false RX1 e) ∧ xnext pX1_fit = true := xrows (by decide +kernel)
set_option maxRecDepth 100000 in
theorem wx_X1_fit_51 (X : xCtx p R S0 m ag c0 D cA A0 sA 5 cX1_fit RX1 (.code yX1_fit cX1_fit 5 (some .boolean) :: xG) 0 0) (hi : meth.name = yX1_fit.name) (hroom : 0 + 2 ≤ R.frames ∧ 60 * (0 + 2) ≤ R.locals) {rr : Int32 × xM} (hE : xEnd l D cA sA cX1_fit 5 (some .boolean) R 0 0 (some (.inl rr.1)) rr.2 p e S0 m ag below meth c0 A0 M0 ad0 Z) (fu : Nat) (k2 : Nat → Option Nat → Int32 → Int32 → xM → Option (Int32 × xM)) (hk2 : ∀ (s : Nat) (x1 : Option Nat) (x2 : Int32) (x3 : Int32) (M : xM), k2 s x1 x2 x3 M = some rr → xWx p l e R S0 m ag below meth c0 D cA A0 sA M0 ad0 5 Z 0 0 2 0 0 [(0, .inr (.inr (1, some s))), (1, .inr (.inr (20, x1))), (2, .inl x2), (3, .inl x3)] [] M) (s : Nat) (x1 : Option Nat) (x2 : Int32) (x3 : Int32) (y0 : Int32) (M : xM) (h : J_X1_fit_51 fu k2 s x1 x2 x3 y0 M = some rr) : xWx p l e R S0 m ag below meth c0 D cA A0 sA M0 ad0 5 Z 0 0 51 0 0 [(0, .inr (.inr (1, some s))), (1, .inr (.inr (20, x1))), (2, .inl x2), (3, .inl x3)] [.inl y0] M := by
  rw [← q_X1_fit_51 fu k2 s x1 x2 x3 y0 M] at h
  have hT : ∀ w ∈ xG, w ∈ (Cond.code yX1_fit cX1_fit 5 (some .boolean) :: xG) := fun w hw => List.mem_cons_of_mem _ hw
  refine xrun_sound (nst := 0) (isInit := false) (kd := kdX1) X (xcls_mono hT xclsG) (xpool_mono hT plX1) (fun z => by cases z) (fun idx v hf => xkoE_mono hT (koX1_ok _ (xfind_mem hf))) (xents (ca := _) ?_) (endZ hE).1 (endZ hE).2 (xcuts (cu := _) ?_) pr_X1_fit.1 pr_X1_fit.2 _ _ _ _ _ _ _ _ (xat_ok pr_X1_fit.1 pr_X1_fit.2).1 (xat_ok pr_X1_fit.1 pr_X1_fit.2).2.1 (xat_ok pr_X1_fit.1 pr_X1_fit.2).2.2 h
  · exact (fun _ h => nomatch h)
  · refine (List.forall_mem_cons.mpr ⟨?_, (fun _ h => nomatch h)⟩)
    · intro bc bs ls st M h
      replace h := xz_some h
      obtain ⟨rfl, rfl, h⟩ := h
      replace h := lR_some h
      obtain ⟨o, e0, h⟩ := h
      replace h := bd_some h
      obtain ⟨s', rfl, h⟩ := h
      replace h := lR_some h
      obtain ⟨x1', e1, h⟩ := h
      replace h := lI_some h
      obtain ⟨x2', e2, h⟩ := h
      replace h := lI_some h
      obtain ⟨x3', e3, h⟩ := h
      replace h := xe_some h
      obtain ⟨rfl, h⟩ := h
      exact xWx_ls (hk2 s' x1' x2' x3' M h) (List.forall_mem_cons.mpr ⟨e0, (List.forall_mem_cons.mpr ⟨e1, (List.forall_mem_cons.mpr ⟨e2, (List.forall_mem_cons.mpr ⟨e3, (fun _ h => nomatch h)⟩)⟩)⟩)⟩)

set_option maxRecDepth 100000 in
theorem wx_X1_fit_2 (X : xCtx p R S0 m ag c0 D cA A0 sA 5 cX1_fit RX1 (.code yX1_fit cX1_fit 5 (some .boolean) :: xG) 0 0) (hi : meth.name = yX1_fit.name) (hroom : 0 + 2 ≤ R.frames ∧ 60 * (0 + 2) ≤ R.locals) {rr : Int32 × xM} (hE : xEnd l D cA sA cX1_fit 5 (some .boolean) R 0 0 (some (.inl rr.1)) rr.2 p e S0 m ag below meth c0 A0 M0 ad0 Z) (fu : Nat) : ∀ (n : Nat) (s : Nat) (x1 : Option Nat) (x2 : Int32) (x3 : Int32) (M : xM), L_X1_fit_2 fu n s x1 x2 x3 M = some rr → xWx p l e R S0 m ag below meth c0 D cA A0 sA M0 ad0 5 Z 0 0 2 0 0 [(0, .inr (.inr (1, some s))), (1, .inr (.inr (20, x1))), (2, .inl x2), (3, .inl x3)] [] M := by
  intro n
  induction n with
  | zero => intro s x1 x2 x3 M h; cases h
  | succ n ih =>
    intro s x1 x2 x3 M h
    rw [← q_X1_fit_2 fu n s x1 x2 x3 M] at h
    have hT : ∀ w ∈ xG, w ∈ (Cond.code yX1_fit cX1_fit 5 (some .boolean) :: xG) := fun w hw => List.mem_cons_of_mem _ hw
    refine xrun_sound (nst := 0) (isInit := false) (kd := kdX1) X (xcls_mono hT xclsG) (xpool_mono hT plX1) (fun z => by cases z) (fun idx v hf => xkoE_mono hT (koX1_ok _ (xfind_mem hf))) (xents (ca := _) ?_) (endZ hE).1 (endZ hE).2 (xcuts (cu := _) ?_) pr_X1_fit.1 pr_X1_fit.2 _ _ _ _ _ _ _ _ (xat_ok pr_X1_fit.1 pr_X1_fit.2).1 (xat_ok pr_X1_fit.1 pr_X1_fit.2).2.1 (xat_ok pr_X1_fit.1 pr_X1_fit.2).2.2 h
    · exact (fun _ h => nomatch h)
    · refine (List.forall_mem_cons.mpr ⟨?_, (fun _ h => nomatch h)⟩)
      · intro bc bs ls st M h
        replace h := xz_some h
        obtain ⟨rfl, rfl, h⟩ := h
        replace h := lR_some h
        obtain ⟨o, e0, h⟩ := h
        replace h := bd_some h
        obtain ⟨s', rfl, h⟩ := h
        replace h := lR_some h
        obtain ⟨x1', e1, h⟩ := h
        replace h := lI_some h
        obtain ⟨x2', e2, h⟩ := h
        replace h := lI_some h
        obtain ⟨x3', e3, h⟩ := h
        replace h := pI_some h
        obtain ⟨y0', st, rfl, h⟩ := h
        replace h := xe_some h
        obtain ⟨rfl, h⟩ := h
        exact xWx_ls (wx_X1_fit_51 X hi hroom hE fu _ ih s' x1' x2' x3' y0' M h) (List.forall_mem_cons.mpr ⟨e0, (List.forall_mem_cons.mpr ⟨e1, (List.forall_mem_cons.mpr ⟨e2, (List.forall_mem_cons.mpr ⟨e3, (fun _ h => nomatch h)⟩)⟩)⟩)⟩)

set_option maxRecDepth 100000 in
theorem wx_X1_fit (X : xCtx p R S0 m ag c0 D cA A0 sA 5 cX1_fit RX1 (.code yX1_fit cX1_fit 5 (some .boolean) :: xG) 0 0) (hi : meth.name = yX1_fit.name) (hroom : 0 + 2 ≤ R.frames ∧ 60 * (0 + 2) ≤ R.locals) {rr : Int32 × xM} (hE : xEnd l D cA sA cX1_fit 5 (some .boolean) R 0 0 (some (.inl rr.1)) rr.2 p e S0 m ag below meth c0 A0 M0 ad0 Z) (fu : Nat) (s : Nat) (x1 : Option Nat) (x2 : Int32) (M : xM) (h : F_X1_fit fu s x1 x2 M = some rr) : xWx p l e R S0 m ag below meth c0 D cA A0 sA M0 ad0 5 Z 0 0 0 0 0 [(0, .inr (.inr (1, some s))), (1, .inr (.inr (20, x1))), (2, .inl x2)] [] M := by
  rw [← q_X1_fit fu s x1 x2 M] at h
  have hT : ∀ w ∈ xG, w ∈ (Cond.code yX1_fit cX1_fit 5 (some .boolean) :: xG) := fun w hw => List.mem_cons_of_mem _ hw
  refine xrun_sound (nst := 0) (isInit := false) (kd := kdX1) X (xcls_mono hT xclsG) (xpool_mono hT plX1) (fun z => by cases z) (fun idx v hf => xkoE_mono hT (koX1_ok _ (xfind_mem hf))) (xents (ca := _) ?_) (endZ hE).1 (endZ hE).2 (xcuts (cu := _) ?_) pr_X1_fit.1 pr_X1_fit.2 _ _ _ _ _ _ _ _ (xat_ok pr_X1_fit.1 pr_X1_fit.2).1 (xat_ok pr_X1_fit.1 pr_X1_fit.2).2.1 (xat_ok pr_X1_fit.1 pr_X1_fit.2).2.2 h
  · exact (fun _ h => nomatch h)
  · refine (List.forall_mem_cons.mpr ⟨?_, (fun _ h => nomatch h)⟩)
    · intro bc bs ls st M h
      replace h := xz_some h
      obtain ⟨rfl, rfl, h⟩ := h
      replace h := lR_some h
      obtain ⟨o, e0, h⟩ := h
      replace h := bd_some h
      obtain ⟨s', rfl, h⟩ := h
      replace h := lR_some h
      obtain ⟨x1', e1, h⟩ := h
      replace h := lI_some h
      obtain ⟨x2', e2, h⟩ := h
      replace h := lI_some h
      obtain ⟨x3', e3, h⟩ := h
      replace h := xe_some h
      obtain ⟨rfl, h⟩ := h
      exact xWx_ls (wx_X1_fit_2 X hi hroom hE fu fu s' x1' x2' x3' M h) (List.forall_mem_cons.mpr ⟨e0, (List.forall_mem_cons.mpr ⟨e1, (List.forall_mem_cons.mpr ⟨e2, (List.forall_mem_cons.mpr ⟨e3, (fun _ h => nomatch h)⟩)⟩)⟩)⟩)

theorem ok_X1_fit (l : Launch) (D : va_G) (cA : Nat → ClassId) (sA : Nat → Nat) (fu : Nat) (s : Nat) (x1 : Option Nat) (x2 : Int32) (M : xM) {rr : Int32 × xM} (h : F_X1_fit fu s x1 x2 M = some rr) : xMet l D cA sA yX1_fit cX1_fit 5 (some .boolean) xG (0 + 1) 0 0 [.inr (.inr (1, some s)), .inr (.inr (20, x1)), .inl x2] M (some (.inl rr.1)) rr.2 :=
  xmet_of (by decide +kernel) (Nat.le_of_ble_eq_true rfl) (fun p e s1 m ag below meth c0 A0 ad0 Z X hn hE => wx_X1_fit X hn ⟨Nat.le_refl _, Nat.le_refl _⟩ hE fu s x1 x2 M h)
theorem hw_X1_fit (l : Launch) (D : va_G) (cA : Nat → ClassId) (sA : Nat → Nat) (fu : Nat) {ρ : Type} {r0 : ρ} (kd1 : Nat) : ∀ (as : List xV) (M : xM) (k : Option xV → xM → Option ρ), w_X1_fit fu as M k = some r0 → ∃ v M', xMet l D cA sA yX1_fit cX1_fit 5 (some .boolean) xG (0 + 1) 0 0 as M v M' ∧ k v M' = some r0 ∧ (kd1 ≠ 2 → ∃ a as', as = .inr (.inr (1, some a)) :: as') := by
  intro as M k h
  unfold w_X1_fit at h
  replace h := pR_some h
  obtain ⟨o, as1, rfl, h⟩ := h
  replace h := bd_some h
  obtain ⟨s, rfl, h⟩ := h
  replace h := pR_some h
  obtain ⟨x1, as1, rfl, h⟩ := h
  replace h := pI_some h
  obtain ⟨x2, as1, rfl, h⟩ := h
  replace h := xe_some h
  obtain ⟨rfl, h⟩ := h
  obtain ⟨p1, hp, h⟩ := Option.bind_eq_some_iff.mp h
  exact ⟨_, _, ok_X1_fit l D cA sA fu s x1 x2 M hp, h, fun _ => ⟨_, _, rfl⟩⟩
theorem lk_X3_46 : xLink xG RX3 46 0 yX1_fit 2 := ⟨Or.inl (xg 1368 (by decide +kernel) (by decide +kernel)), (xg 1369 (by decide +kernel) (by decide +kernel)), (xg 1370 (by decide +kernel) (by decide +kernel)), (xg 137 (by decide +kernel) (by decide +kernel)), ⟨1, by decide, TX1, 4, rfl⟩⟩
theorem cd_X3_fitting : Cond.code yX3_fitting cX3_fitting 4 (some .int) ∈ xG := (xg 1367 (by decide +kernel) (by decide +kernel))
theorem pr_X3_fitting : (∀ e ∈ pX3_fitting, xrow cX3_fitting 4 kdX3 flX3 0 false RX3 e) ∧ xnext pX3_fitting = true := xrows (by decide +kernel)
set_option maxRecDepth 100000 in
theorem wx_X3_fitting_4 (X : xCtx p R S0 m ag c0 D cA A0 sA 4 cX3_fitting RX3 (.code yX3_fitting cX3_fitting 4 (some .int) :: xG) 0 0) (hi : meth.name = yX3_fitting.name) (hroom : 1 + 2 ≤ R.frames ∧ 60 * (1 + 2) ≤ R.locals) {rr : Int32 × xM} (hE : xEnd l D cA sA cX3_fitting 4 (some .int) R 0 0 (some (.inl rr.1)) rr.2 p e S0 m ag below meth c0 A0 M0 ad0 Z) (fu : Nat) : ∀ (n : Nat) (s : Nat) (x1 : Option Nat) (x2 : Int32) (x3 : Int32) (M : xM), L_X3_fitting_4 fu n s x1 x2 x3 M = some rr → xWx p l e R S0 m ag below meth c0 D cA A0 sA M0 ad0 4 Z 0 0 4 0 0 [(0, .inr (.inr (3, some s))), (1, .inr (.inr (1, x1))), (2, .inl x2), (3, .inl x3)] [] M := by
  intro n
  induction n with
  | zero => intro s x1 x2 x3 M h; cases h
  | succ n ih =>
    intro s x1 x2 x3 M h
    rw [← q_X3_fitting_4 fu n s x1 x2 x3 M] at h
    have hT : ∀ w ∈ xG, w ∈ (Cond.code yX3_fitting cX3_fitting 4 (some .int) :: xG) := fun w hw => List.mem_cons_of_mem _ hw
    refine xrun_sound (nst := 0) (isInit := false) (kd := kdX3) X (xcls_mono hT xclsG) (xpool_mono hT plX3) (fun z => by cases z) (fun idx v hf => xkoE_mono hT (koX3_ok _ (xfind_mem hf))) (xents (ca := _) ?_) (endI hE).1 (endI hE).2 (xcuts (cu := _) ?_) pr_X3_fitting.1 pr_X3_fitting.2 _ _ _ _ _ _ _ _ (xat_ok pr_X3_fitting.1 pr_X3_fitting.2).1 (xat_ok pr_X3_fitting.1 pr_X3_fitting.2).2.1 (xat_ok pr_X3_fitting.1 pr_X3_fitting.2).2.2 h
    · exact (List.forall_mem_cons.mpr ⟨(xent_met X (ci := 1) hT cd_X1_fit lk_X3_46 rfl (by decide) rfl (by decide +kernel) (fun z => absurd z (by decide)) (hw_X1_fit l D cA sA fu 0) (fun _ => ⟨by decide, fun _ => ⟨TX1, 4, rfl⟩⟩) (by constructor <;> omega) (by decide)), (fun _ h => nomatch h)⟩)
    · refine (List.forall_mem_cons.mpr ⟨?_, (fun _ h => nomatch h)⟩)
      · intro bc bs ls st M h
        replace h := xz_some h
        obtain ⟨rfl, rfl, h⟩ := h
        replace h := lR_some h
        obtain ⟨o, e0, h⟩ := h
        replace h := bd_some h
        obtain ⟨s', rfl, h⟩ := h
        replace h := lR_some h
        obtain ⟨x1', e1, h⟩ := h
        replace h := lI_some h
        obtain ⟨x2', e2, h⟩ := h
        replace h := lI_some h
        obtain ⟨x3', e3, h⟩ := h
        replace h := xe_some h
        obtain ⟨rfl, h⟩ := h
        exact xWx_ls (ih s' x1' x2' x3' M h) (List.forall_mem_cons.mpr ⟨e0, (List.forall_mem_cons.mpr ⟨e1, (List.forall_mem_cons.mpr ⟨e2, (List.forall_mem_cons.mpr ⟨e3, (fun _ h => nomatch h)⟩)⟩)⟩)⟩)

set_option maxRecDepth 100000 in
theorem wx_X3_fitting (X : xCtx p R S0 m ag c0 D cA A0 sA 4 cX3_fitting RX3 (.code yX3_fitting cX3_fitting 4 (some .int) :: xG) 0 0) (hi : meth.name = yX3_fitting.name) (hroom : 1 + 2 ≤ R.frames ∧ 60 * (1 + 2) ≤ R.locals) {rr : Int32 × xM} (hE : xEnd l D cA sA cX3_fitting 4 (some .int) R 0 0 (some (.inl rr.1)) rr.2 p e S0 m ag below meth c0 A0 M0 ad0 Z) (fu : Nat) (s : Nat) (x1 : Option Nat) (M : xM) (h : F_X3_fitting fu s x1 M = some rr) : xWx p l e R S0 m ag below meth c0 D cA A0 sA M0 ad0 4 Z 0 0 0 0 0 [(0, .inr (.inr (3, some s))), (1, .inr (.inr (1, x1)))] [] M := by
  rw [← q_X3_fitting fu s x1 M] at h
  have hT : ∀ w ∈ xG, w ∈ (Cond.code yX3_fitting cX3_fitting 4 (some .int) :: xG) := fun w hw => List.mem_cons_of_mem _ hw
  refine xrun_sound (nst := 0) (isInit := false) (kd := kdX3) X (xcls_mono hT xclsG) (xpool_mono hT plX3) (fun z => by cases z) (fun idx v hf => xkoE_mono hT (koX3_ok _ (xfind_mem hf))) (xents (ca := _) ?_) (endI hE).1 (endI hE).2 (xcuts (cu := _) ?_) pr_X3_fitting.1 pr_X3_fitting.2 _ _ _ _ _ _ _ _ (xat_ok pr_X3_fitting.1 pr_X3_fitting.2).1 (xat_ok pr_X3_fitting.1 pr_X3_fitting.2).2.1 (xat_ok pr_X3_fitting.1 pr_X3_fitting.2).2.2 h
  · exact (fun _ h => nomatch h)
  · refine (List.forall_mem_cons.mpr ⟨?_, (fun _ h => nomatch h)⟩)
    · intro bc bs ls st M h
      replace h := xz_some h
      obtain ⟨rfl, rfl, h⟩ := h
      replace h := lR_some h
      obtain ⟨o, e0, h⟩ := h
      replace h := bd_some h
      obtain ⟨s', rfl, h⟩ := h
      replace h := lR_some h
      obtain ⟨x1', e1, h⟩ := h
      replace h := lI_some h
      obtain ⟨x2', e2, h⟩ := h
      replace h := lI_some h
      obtain ⟨x3', e3, h⟩ := h
      replace h := xe_some h
      obtain ⟨rfl, h⟩ := h
      exact xWx_ls (wx_X3_fitting_4 X hi hroom hE fu fu s' x1' x2' x3' M h) (List.forall_mem_cons.mpr ⟨e0, (List.forall_mem_cons.mpr ⟨e1, (List.forall_mem_cons.mpr ⟨e2, (List.forall_mem_cons.mpr ⟨e3, (fun _ h => nomatch h)⟩)⟩)⟩)⟩)

theorem ok_X3_fitting (l : Launch) (D : va_G) (cA : Nat → ClassId) (sA : Nat → Nat) (fu : Nat) (s : Nat) (x1 : Option Nat) (M : xM) {rr : Int32 × xM} (h : F_X3_fitting fu s x1 M = some rr) : xMet l D cA sA yX3_fitting cX3_fitting 4 (some .int) xG (1 + 1) 0 0 [.inr (.inr (3, some s)), .inr (.inr (1, x1))] M (some (.inl rr.1)) rr.2 :=
  xmet_of (by decide +kernel) (Nat.le_of_ble_eq_true rfl) (fun p e s1 m ag below meth c0 A0 ad0 Z X hn hE => wx_X3_fitting X hn ⟨Nat.le_refl _, Nat.le_refl _⟩ hE fu s x1 M h)
theorem hw_X3_fitting (l : Launch) (D : va_G) (cA : Nat → ClassId) (sA : Nat → Nat) (fu : Nat) {ρ : Type} {r0 : ρ} (kd1 : Nat) : ∀ (as : List xV) (M : xM) (k : Option xV → xM → Option ρ), w_X3_fitting fu as M k = some r0 → ∃ v M', xMet l D cA sA yX3_fitting cX3_fitting 4 (some .int) xG (1 + 1) 0 0 as M v M' ∧ k v M' = some r0 ∧ (kd1 ≠ 2 → ∃ a as', as = .inr (.inr (3, some a)) :: as') := by
  intro as M k h
  unfold w_X3_fitting at h
  replace h := pR_some h
  obtain ⟨o, as1, rfl, h⟩ := h
  replace h := bd_some h
  obtain ⟨s, rfl, h⟩ := h
  replace h := pR_some h
  obtain ⟨x1, as1, rfl, h⟩ := h
  replace h := xe_some h
  obtain ⟨rfl, h⟩ := h
  obtain ⟨p1, hp, h⟩ := Option.bind_eq_some_iff.mp h
  exact ⟨_, _, ok_X3_fitting l D cA sA fu s x1 M hp, h, fun _ => ⟨_, _, rfl⟩⟩
theorem lk_X11_300 : xLink xG RX11 300 0 yX3_fitting 1 := ⟨Or.inl (xg 1364 (by decide +kernel) (by decide +kernel)), (xg 1365 (by decide +kernel) (by decide +kernel)), (xg 1366 (by decide +kernel) (by decide +kernel)), (xg 139 (by decide +kernel) (by decide +kernel)), ⟨3, by decide, TX3, 6, rfl⟩⟩
theorem cd_X11_cuts : Cond.code yX11_cuts cX11_cuts 1 (some .int) ∈ xG := (xg 1363 (by decide +kernel) (by decide +kernel))
theorem pr_X11_cuts : (∀ e ∈ pX11_cuts, xrow cX11_cuts 1 kdX11 flX11 0 false RX11 e) ∧ xnext pX11_cuts = true := xrows (by decide +kernel)
set_option maxRecDepth 100000 in
theorem wx_X11_cuts (X : xCtx p R S0 m ag c0 D cA A0 sA 1 cX11_cuts RX11 (.code yX11_cuts cX11_cuts 1 (some .int) :: xG) 0 0) (hi : meth.name = yX11_cuts.name) (hroom : 12 + 2 ≤ R.frames ∧ 60 * (12 + 2) ≤ R.locals) {rr : Int32 × xM} (hE : xEnd l D cA sA cX11_cuts 1 (some .int) R 0 0 (some (.inl rr.1)) rr.2 p e S0 m ag below meth c0 A0 M0 ad0 Z) (fu : Nat) (s : Nat) (M : xM) (h : F_X11_cuts fu s M = some rr) : xWx p l e R S0 m ag below meth c0 D cA A0 sA M0 ad0 1 Z 0 0 0 0 0 [(0, .inr (.inr (11, some s)))] [] M := by
  rw [← q_X11_cuts fu s M] at h
  have hT : ∀ w ∈ xG, w ∈ (Cond.code yX11_cuts cX11_cuts 1 (some .int) :: xG) := fun w hw => List.mem_cons_of_mem _ hw
  refine xrun_sound (nst := 0) (isInit := false) (kd := kdX11) X (xcls_mono hT xclsG) (xpool_mono hT plX11) (fun z => by cases z) (fun idx v hf => xkoE_mono hT (koX11_ok _ (xfind_mem hf))) (xents (ca := _) ?_) (endI hE).1 (endI hE).2 (xcuts (cu := _) ?_) pr_X11_cuts.1 pr_X11_cuts.2 _ _ _ _ _ _ _ _ (xat_ok pr_X11_cuts.1 pr_X11_cuts.2).1 (xat_ok pr_X11_cuts.1 pr_X11_cuts.2).2.1 (xat_ok pr_X11_cuts.1 pr_X11_cuts.2).2.2 h
  · exact (List.forall_mem_cons.mpr ⟨(xent_met X (ci := 5) hT cd_X5_run lk_X11_207 rfl (by decide) rfl (by decide +kernel) (fun z => absurd z (by decide)) (hw_X5_run l D cA sA fu 0) (fun _ => ⟨by decide, fun _ => ⟨TX5, 7, rfl⟩⟩) (by constructor <;> omega) (by decide)), (List.forall_mem_cons.mpr ⟨(xent_met X (ci := 3) hT cd_X3_fitting lk_X11_300 rfl (by decide) rfl (by decide +kernel) (fun z => absurd z (by decide)) (hw_X3_fitting l D cA sA fu 0) (fun _ => ⟨by decide, fun _ => ⟨TX3, 6, rfl⟩⟩) (by constructor <;> omega) (by decide)), (fun _ h => nomatch h)⟩)⟩)
  · exact (fun _ h => nomatch h)

theorem ok_X11_cuts (l : Launch) (D : va_G) (cA : Nat → ClassId) (sA : Nat → Nat) (fu : Nat) (s : Nat) (M : xM) {rr : Int32 × xM} (h : F_X11_cuts fu s M = some rr) : xMet l D cA sA yX11_cuts cX11_cuts 1 (some .int) xG (12 + 1) 0 0 [.inr (.inr (11, some s))] M (some (.inl rr.1)) rr.2 :=
  xmet_of (by decide +kernel) (Nat.le_of_ble_eq_true rfl) (fun p e s1 m ag below meth c0 A0 ad0 Z X hn hE => wx_X11_cuts X hn ⟨Nat.le_refl _, Nat.le_refl _⟩ hE fu s M h)
theorem hw_X11_cuts (l : Launch) (D : va_G) (cA : Nat → ClassId) (sA : Nat → Nat) (fu : Nat) {ρ : Type} {r0 : ρ} (kd1 : Nat) : ∀ (as : List xV) (M : xM) (k : Option xV → xM → Option ρ), w_X11_cuts fu as M k = some r0 → ∃ v M', xMet l D cA sA yX11_cuts cX11_cuts 1 (some .int) xG (12 + 1) 0 0 as M v M' ∧ k v M' = some r0 ∧ (kd1 ≠ 2 → ∃ a as', as = .inr (.inr (11, some a)) :: as') := by
  intro as M k h
  unfold w_X11_cuts at h
  replace h := pR_some h
  obtain ⟨o, as1, rfl, h⟩ := h
  replace h := bd_some h
  obtain ⟨s, rfl, h⟩ := h
  replace h := xe_some h
  obtain ⟨rfl, h⟩ := h
  obtain ⟨p1, hp, h⟩ := Option.bind_eq_some_iff.mp h
  exact ⟨_, _, ok_X11_cuts l D cA sA fu s M hp, h, fun _ => ⟨_, _, rfl⟩⟩
theorem cd_X11_ends : Cond.code yX11_ends cX11_ends 1 (some .int) ∈ xG := (xg 1347 (by decide +kernel) (by decide +kernel))
theorem pr_X11_ends : (∀ e ∈ pX11_ends, xrow cX11_ends 1 kdX11 flX11 0 false RX11 e) ∧ xnext pX11_ends = true := xrows (by decide +kernel)
set_option maxRecDepth 100000 in
theorem wx_X11_ends (X : xCtx p R S0 m ag c0 D cA A0 sA 1 cX11_ends RX11 (.code yX11_ends cX11_ends 1 (some .int) :: xG) 0 0) (hi : meth.name = yX11_ends.name) (hroom : 12 + 2 ≤ R.frames ∧ 60 * (12 + 2) ≤ R.locals) {rr : Int32 × xM} (hE : xEnd l D cA sA cX11_ends 1 (some .int) R 0 0 (some (.inl rr.1)) rr.2 p e S0 m ag below meth c0 A0 M0 ad0 Z) (fu : Nat) (s : Nat) (M : xM) (h : F_X11_ends fu s M = some rr) : xWx p l e R S0 m ag below meth c0 D cA A0 sA M0 ad0 1 Z 0 0 0 0 0 [(0, .inr (.inr (11, some s)))] [] M := by
  rw [← q_X11_ends fu s M] at h
  have hT : ∀ w ∈ xG, w ∈ (Cond.code yX11_ends cX11_ends 1 (some .int) :: xG) := fun w hw => List.mem_cons_of_mem _ hw
  refine xrun_sound (nst := 0) (isInit := false) (kd := kdX11) X (xcls_mono hT xclsG) (xpool_mono hT plX11) (fun z => by cases z) (fun idx v hf => xkoE_mono hT (koX11_ok _ (xfind_mem hf))) (xents (ca := _) ?_) (endI hE).1 (endI hE).2 (xcuts (cu := _) ?_) pr_X11_ends.1 pr_X11_ends.2 _ _ _ _ _ _ _ _ (xat_ok pr_X11_ends.1 pr_X11_ends.2).1 (xat_ok pr_X11_ends.1 pr_X11_ends.2).2.1 (xat_ok pr_X11_ends.1 pr_X11_ends.2).2.2 h
  · exact (List.forall_mem_cons.mpr ⟨(xent_met X (ci := 5) hT cd_X5_run lk_X11_207 rfl (by decide) rfl (by decide +kernel) (fun z => absurd z (by decide)) (hw_X5_run l D cA sA fu 0) (fun _ => ⟨by decide, fun _ => ⟨TX5, 7, rfl⟩⟩) (by constructor <;> omega) (by decide)), (fun _ h => nomatch h)⟩)
  · exact (fun _ h => nomatch h)

theorem ok_X11_ends (l : Launch) (D : va_G) (cA : Nat → ClassId) (sA : Nat → Nat) (fu : Nat) (s : Nat) (M : xM) {rr : Int32 × xM} (h : F_X11_ends fu s M = some rr) : xMet l D cA sA yX11_ends cX11_ends 1 (some .int) xG (12 + 1) 0 0 [.inr (.inr (11, some s))] M (some (.inl rr.1)) rr.2 :=
  xmet_of (by decide +kernel) (Nat.le_of_ble_eq_true rfl) (fun p e s1 m ag below meth c0 A0 ad0 Z X hn hE => wx_X11_ends X hn ⟨Nat.le_refl _, Nat.le_refl _⟩ hE fu s M h)
theorem hw_X11_ends (l : Launch) (D : va_G) (cA : Nat → ClassId) (sA : Nat → Nat) (fu : Nat) {ρ : Type} {r0 : ρ} (kd1 : Nat) : ∀ (as : List xV) (M : xM) (k : Option xV → xM → Option ρ), w_X11_ends fu as M k = some r0 → ∃ v M', xMet l D cA sA yX11_ends cX11_ends 1 (some .int) xG (12 + 1) 0 0 as M v M' ∧ k v M' = some r0 ∧ (kd1 ≠ 2 → ∃ a as', as = .inr (.inr (11, some a)) :: as') := by
  intro as M k h
  unfold w_X11_ends at h
  replace h := pR_some h
  obtain ⟨o, as1, rfl, h⟩ := h
  replace h := bd_some h
  obtain ⟨s, rfl, h⟩ := h
  replace h := xe_some h
  obtain ⟨rfl, h⟩ := h
  obtain ⟨p1, hp, h⟩ := Option.bind_eq_some_iff.mp h
  exact ⟨_, _, ok_X11_ends l D cA sA fu s M hp, h, fun _ => ⟨_, _, rfl⟩⟩
theorem lk_X11_90 : xLink xG RX11 90 0 yX10_add 1 := ⟨Or.inl (xg 630 (by decide +kernel) (by decide +kernel)), (xg 631 (by decide +kernel) (by decide +kernel)), (xg 632 (by decide +kernel) (by decide +kernel)), (xg 129 (by decide +kernel) (by decide +kernel)), ⟨10, by decide, TX10, 10, rfl⟩⟩
theorem cd_X11_feed : Cond.code yX11_feed cX11_feed 7 (some .int) ∈ xG := (xg 629 (by decide +kernel) (by decide +kernel))
theorem pr_X11_feed : (∀ e ∈ pX11_feed, xrow cX11_feed 7 kdX11 flX11 0 false RX11 e) ∧ xnext pX11_feed = true := xrows (by decide +kernel)
set_option maxRecDepth 100000 in
theorem wx_X11_feed (X : xCtx p R S0 m ag c0 D cA A0 sA 7 cX11_feed RX11 (.code yX11_feed cX11_feed 7 (some .int) :: xG) 0 0) (hi : meth.name = yX11_feed.name) (hroom : 1 + 2 ≤ R.frames ∧ 60 * (1 + 2) ≤ R.locals) {rr : Int32 × xM} (hE : xEnd l D cA sA cX11_feed 7 (some .int) R 0 0 (some (.inl rr.1)) rr.2 p e S0 m ag below meth c0 A0 M0 ad0 Z) (fu : Nat) (s : Nat) (x1 : Int64) (x3 : Int64) (x5 : Int64) (M : xM) (h : F_X11_feed fu s x1 x3 x5 M = some rr) : xWx p l e R S0 m ag below meth c0 D cA A0 sA M0 ad0 7 Z 0 0 0 0 0 [(0, .inr (.inr (11, some s))), (1, .inr (.inl x1)), (3, .inr (.inl x3)), (5, .inr (.inl x5))] [] M := by
  rw [← q_X11_feed fu s x1 x3 x5 M] at h
  have hT : ∀ w ∈ xG, w ∈ (Cond.code yX11_feed cX11_feed 7 (some .int) :: xG) := fun w hw => List.mem_cons_of_mem _ hw
  refine xrun_sound (nst := 0) (isInit := false) (kd := kdX11) X (xcls_mono hT xclsG) (xpool_mono hT plX11) (fun z => by cases z) (fun idx v hf => xkoE_mono hT (koX11_ok _ (xfind_mem hf))) (xents (ca := _) ?_) (endI hE).1 (endI hE).2 (xcuts (cu := _) ?_) pr_X11_feed.1 pr_X11_feed.2 _ _ _ _ _ _ _ _ (xat_ok pr_X11_feed.1 pr_X11_feed.2).1 (xat_ok pr_X11_feed.1 pr_X11_feed.2).2.1 (xat_ok pr_X11_feed.1 pr_X11_feed.2).2.2 h
  · exact (List.forall_mem_cons.mpr ⟨(xent_met X (ci := 10) hT cd_X10_add lk_X11_90 rfl (by decide) rfl (by decide +kernel) (fun z => absurd z (by decide)) (hw_X10_add l D cA sA fu 0) (fun _ => ⟨by decide, fun _ => ⟨TX10, 10, rfl⟩⟩) (by constructor <;> omega) (by decide)), (fun _ h => nomatch h)⟩)
  · exact (fun _ h => nomatch h)

theorem ok_X11_feed (l : Launch) (D : va_G) (cA : Nat → ClassId) (sA : Nat → Nat) (fu : Nat) (s : Nat) (x1 : Int64) (x3 : Int64) (x5 : Int64) (M : xM) {rr : Int32 × xM} (h : F_X11_feed fu s x1 x3 x5 M = some rr) : xMet l D cA sA yX11_feed cX11_feed 7 (some .int) xG (1 + 1) 0 0 [.inr (.inr (11, some s)), .inr (.inl x1), .inr (.inl x3), .inr (.inl x5)] M (some (.inl rr.1)) rr.2 :=
  xmet_of (by decide +kernel) (Nat.le_of_ble_eq_true rfl) (fun p e s1 m ag below meth c0 A0 ad0 Z X hn hE => wx_X11_feed X hn ⟨Nat.le_refl _, Nat.le_refl _⟩ hE fu s x1 x3 x5 M h)
theorem hw_X11_feed (l : Launch) (D : va_G) (cA : Nat → ClassId) (sA : Nat → Nat) (fu : Nat) {ρ : Type} {r0 : ρ} (kd1 : Nat) : ∀ (as : List xV) (M : xM) (k : Option xV → xM → Option ρ), w_X11_feed fu as M k = some r0 → ∃ v M', xMet l D cA sA yX11_feed cX11_feed 7 (some .int) xG (1 + 1) 0 0 as M v M' ∧ k v M' = some r0 ∧ (kd1 ≠ 2 → ∃ a as', as = .inr (.inr (11, some a)) :: as') := by
  intro as M k h
  unfold w_X11_feed at h
  replace h := pR_some h
  obtain ⟨o, as1, rfl, h⟩ := h
  replace h := bd_some h
  obtain ⟨s, rfl, h⟩ := h
  replace h := pL_some h
  obtain ⟨x1, as1, rfl, h⟩ := h
  replace h := pL_some h
  obtain ⟨x3, as1, rfl, h⟩ := h
  replace h := pL_some h
  obtain ⟨x5, as1, rfl, h⟩ := h
  replace h := xe_some h
  obtain ⟨rfl, h⟩ := h
  obtain ⟨p1, hp, h⟩ := Option.bind_eq_some_iff.mp h
  exact ⟨_, _, ok_X11_feed l D cA sA fu s x1 x3 x5 M hp, h, fun _ => ⟨_, _, rfl⟩⟩
theorem cd_X2_isOrphan : Cond.code yX2_isOrphan cX2_isOrphan 2 (some .boolean) ∈ xG := (xg 976 (by decide +kernel) (by decide +kernel))
theorem pr_X2_isOrphan : (∀ e ∈ pX2_isOrphan, xrow cX2_isOrphan 2 kdX2 flX2 0 false RX2 e) ∧ xnext pX2_isOrphan = true := xrows (by decide +kernel)
set_option maxRecDepth 100000 in
theorem wx_X2_isOrphan (X : xCtx p R S0 m ag c0 D cA A0 sA 2 cX2_isOrphan RX2 (.code yX2_isOrphan cX2_isOrphan 2 (some .boolean) :: xG) 0 0) (hi : meth.name = yX2_isOrphan.name) (hroom : 0 + 2 ≤ R.frames ∧ 60 * (0 + 2) ≤ R.locals) {rr : Int32 × xM} (hE : xEnd l D cA sA cX2_isOrphan 2 (some .boolean) R 0 0 (some (.inl rr.1)) rr.2 p e S0 m ag below meth c0 A0 M0 ad0 Z) (fu : Nat) (s : Nat) (x1 : Int32) (M : xM) (h : F_X2_isOrphan fu s x1 M = some rr) : xWx p l e R S0 m ag below meth c0 D cA A0 sA M0 ad0 2 Z 0 0 0 0 0 [(0, .inr (.inr (2, some s))), (1, .inl x1)] [] M := by
  rw [← q_X2_isOrphan fu s x1 M] at h
  have hT : ∀ w ∈ xG, w ∈ (Cond.code yX2_isOrphan cX2_isOrphan 2 (some .boolean) :: xG) := fun w hw => List.mem_cons_of_mem _ hw
  refine xrun_sound (nst := 0) (isInit := false) (kd := kdX2) X (xcls_mono hT xclsG) (xpool_mono hT plX2) (fun z => by cases z) (fun idx v hf => xkoE_mono hT (koX2_ok _ (xfind_mem hf))) (xents (ca := _) ?_) (endZ hE).1 (endZ hE).2 (xcuts (cu := _) ?_) pr_X2_isOrphan.1 pr_X2_isOrphan.2 _ _ _ _ _ _ _ _ (xat_ok pr_X2_isOrphan.1 pr_X2_isOrphan.2).1 (xat_ok pr_X2_isOrphan.1 pr_X2_isOrphan.2).2.1 (xat_ok pr_X2_isOrphan.1 pr_X2_isOrphan.2).2.2 h
  · exact (fun _ h => nomatch h)
  · exact (fun _ h => nomatch h)

theorem ok_X2_isOrphan (l : Launch) (D : va_G) (cA : Nat → ClassId) (sA : Nat → Nat) (fu : Nat) (s : Nat) (x1 : Int32) (M : xM) {rr : Int32 × xM} (h : F_X2_isOrphan fu s x1 M = some rr) : xMet l D cA sA yX2_isOrphan cX2_isOrphan 2 (some .boolean) xG (0 + 1) 0 0 [.inr (.inr (2, some s)), .inl x1] M (some (.inl rr.1)) rr.2 :=
  xmet_of (by decide +kernel) (Nat.le_of_ble_eq_true rfl) (fun p e s1 m ag below meth c0 A0 ad0 Z X hn hE => wx_X2_isOrphan X hn ⟨Nat.le_refl _, Nat.le_refl _⟩ hE fu s x1 M h)
theorem hw_X2_isOrphan (l : Launch) (D : va_G) (cA : Nat → ClassId) (sA : Nat → Nat) (fu : Nat) {ρ : Type} {r0 : ρ} (kd1 : Nat) : ∀ (as : List xV) (M : xM) (k : Option xV → xM → Option ρ), w_X2_isOrphan fu as M k = some r0 → ∃ v M', xMet l D cA sA yX2_isOrphan cX2_isOrphan 2 (some .boolean) xG (0 + 1) 0 0 as M v M' ∧ k v M' = some r0 ∧ (kd1 ≠ 2 → ∃ a as', as = .inr (.inr (2, some a)) :: as') := by
  intro as M k h
  unfold w_X2_isOrphan at h
  replace h := pR_some h
  obtain ⟨o, as1, rfl, h⟩ := h
  replace h := bd_some h
  obtain ⟨s, rfl, h⟩ := h
  replace h := pI_some h
  obtain ⟨x1, as1, rfl, h⟩ := h
  replace h := xe_some h
  obtain ⟨rfl, h⟩ := h
  obtain ⟨p1, hp, h⟩ := Option.bind_eq_some_iff.mp h
  exact ⟨_, _, ok_X2_isOrphan l D cA sA fu s x1 M hp, h, fun _ => ⟨_, _, rfl⟩⟩
theorem lk_X11_163 : xLink xG RX11 163 0 yX7_isFile 1 := ⟨Or.inl (xg 961 (by decide +kernel) (by decide +kernel)), (xg 962 (by decide +kernel) (by decide +kernel)), (xg 963 (by decide +kernel) (by decide +kernel)), (xg 130 (by decide +kernel) (by decide +kernel)), ⟨7, by decide, TX7, 9, rfl⟩⟩
theorem lk_X11_172 : xLink xG RX11 172 0 yX2_mappedBits 1 := ⟨Or.inl (xg 965 (by decide +kernel) (by decide +kernel)), (xg 966 (by decide +kernel) (by decide +kernel)), (xg 967 (by decide +kernel) (by decide +kernel)), (xg 134 (by decide +kernel) (by decide +kernel)), ⟨2, by decide, TX2, 16, rfl⟩⟩
theorem lk_X11_175 : xLink xG RX11 175 0 yX2_isOpen 1 := ⟨Or.inl (xg 969 (by decide +kernel) (by decide +kernel)), (xg 970 (by decide +kernel) (by decide +kernel)), (xg 971 (by decide +kernel) (by decide +kernel)), (xg 134 (by decide +kernel) (by decide +kernel)), ⟨2, by decide, TX2, 16, rfl⟩⟩
theorem lk_X11_178 : xLink xG RX11 178 0 yX2_isOrphan 1 := ⟨Or.inl (xg 973 (by decide +kernel) (by decide +kernel)), (xg 974 (by decide +kernel) (by decide +kernel)), (xg 975 (by decide +kernel) (by decide +kernel)), (xg 134 (by decide +kernel) (by decide +kernel)), ⟨2, by decide, TX2, 16, rfl⟩⟩
theorem cd_X11_file : Cond.code yX11_file cX11_file 3 (some .int) ∈ xG := (xg 960 (by decide +kernel) (by decide +kernel))
theorem pr_X11_file : (∀ e ∈ pX11_file, xrow cX11_file 3 kdX11 flX11 0 false RX11 e) ∧ xnext pX11_file = true := xrows (by decide +kernel)
set_option maxRecDepth 100000 in
theorem wx_X11_file (X : xCtx p R S0 m ag c0 D cA A0 sA 3 cX11_file RX11 (.code yX11_file cX11_file 3 (some .int) :: xG) 0 0) (hi : meth.name = yX11_file.name) (hroom : 1 + 2 ≤ R.frames ∧ 60 * (1 + 2) ≤ R.locals) {rr : Int32 × xM} (hE : xEnd l D cA sA cX11_file 3 (some .int) R 0 0 (some (.inl rr.1)) rr.2 p e S0 m ag below meth c0 A0 M0 ad0 Z) (fu : Nat) (s : Nat) (x1 : Int32) (x2 : Int32) (M : xM) (h : F_X11_file fu s x1 x2 M = some rr) : xWx p l e R S0 m ag below meth c0 D cA A0 sA M0 ad0 3 Z 0 0 0 0 0 [(0, .inr (.inr (11, some s))), (1, .inl x1), (2, .inl x2)] [] M := by
  rw [← q_X11_file fu s x1 x2 M] at h
  have hT : ∀ w ∈ xG, w ∈ (Cond.code yX11_file cX11_file 3 (some .int) :: xG) := fun w hw => List.mem_cons_of_mem _ hw
  refine xrun_sound (nst := 0) (isInit := false) (kd := kdX11) X (xcls_mono hT xclsG) (xpool_mono hT plX11) (fun z => by cases z) (fun idx v hf => xkoE_mono hT (koX11_ok _ (xfind_mem hf))) (xents (ca := _) ?_) (endI hE).1 (endI hE).2 (xcuts (cu := _) ?_) pr_X11_file.1 pr_X11_file.2 _ _ _ _ _ _ _ _ (xat_ok pr_X11_file.1 pr_X11_file.2).1 (xat_ok pr_X11_file.1 pr_X11_file.2).2.1 (xat_ok pr_X11_file.1 pr_X11_file.2).2.2 h
  · exact (List.forall_mem_cons.mpr ⟨(xent_met X (ci := 7) hT cd_X7_isFile lk_X11_163 rfl (by decide) rfl (by decide +kernel) (fun z => absurd z (by decide)) (hw_X7_isFile l D cA sA fu 0) (fun _ => ⟨by decide, fun _ => ⟨TX7, 9, rfl⟩⟩) (by constructor <;> omega) (by decide)), (List.forall_mem_cons.mpr ⟨(xent_met X (ci := 2) hT cd_X2_mappedBits lk_X11_172 rfl (by decide) rfl (by decide +kernel) (fun z => absurd z (by decide)) (hw_X2_mappedBits l D cA sA fu 0) (fun _ => ⟨by decide, fun _ => ⟨TX2, 16, rfl⟩⟩) (by constructor <;> omega) (by decide)), (List.forall_mem_cons.mpr ⟨(xent_met X (ci := 2) hT cd_X2_isOpen lk_X11_175 rfl (by decide) rfl (by decide +kernel) (fun z => absurd z (by decide)) (hw_X2_isOpen l D cA sA fu 0) (fun _ => ⟨by decide, fun _ => ⟨TX2, 16, rfl⟩⟩) (by constructor <;> omega) (by decide)), (List.forall_mem_cons.mpr ⟨(xent_met X (ci := 2) hT cd_X2_isOrphan lk_X11_178 rfl (by decide) rfl (by decide +kernel) (fun z => absurd z (by decide)) (hw_X2_isOrphan l D cA sA fu 0) (fun _ => ⟨by decide, fun _ => ⟨TX2, 16, rfl⟩⟩) (by constructor <;> omega) (by decide)), (fun _ h => nomatch h)⟩)⟩)⟩)⟩)
  · exact (fun _ h => nomatch h)

theorem ok_X11_file (l : Launch) (D : va_G) (cA : Nat → ClassId) (sA : Nat → Nat) (fu : Nat) (s : Nat) (x1 : Int32) (x2 : Int32) (M : xM) {rr : Int32 × xM} (h : F_X11_file fu s x1 x2 M = some rr) : xMet l D cA sA yX11_file cX11_file 3 (some .int) xG (1 + 1) 0 0 [.inr (.inr (11, some s)), .inl x1, .inl x2] M (some (.inl rr.1)) rr.2 :=
  xmet_of (by decide +kernel) (Nat.le_of_ble_eq_true rfl) (fun p e s1 m ag below meth c0 A0 ad0 Z X hn hE => wx_X11_file X hn ⟨Nat.le_refl _, Nat.le_refl _⟩ hE fu s x1 x2 M h)
theorem hw_X11_file (l : Launch) (D : va_G) (cA : Nat → ClassId) (sA : Nat → Nat) (fu : Nat) {ρ : Type} {r0 : ρ} (kd1 : Nat) : ∀ (as : List xV) (M : xM) (k : Option xV → xM → Option ρ), w_X11_file fu as M k = some r0 → ∃ v M', xMet l D cA sA yX11_file cX11_file 3 (some .int) xG (1 + 1) 0 0 as M v M' ∧ k v M' = some r0 ∧ (kd1 ≠ 2 → ∃ a as', as = .inr (.inr (11, some a)) :: as') := by
  intro as M k h
  unfold w_X11_file at h
  replace h := pR_some h
  obtain ⟨o, as1, rfl, h⟩ := h
  replace h := bd_some h
  obtain ⟨s, rfl, h⟩ := h
  replace h := pI_some h
  obtain ⟨x1, as1, rfl, h⟩ := h
  replace h := pI_some h
  obtain ⟨x2, as1, rfl, h⟩ := h
  replace h := xe_some h
  obtain ⟨rfl, h⟩ := h
  obtain ⟨p1, hp, h⟩ := Option.bind_eq_some_iff.mp h
  exact ⟨_, _, ok_X11_file l D cA sA fu s x1 x2 M hp, h, fun _ => ⟨_, _, rfl⟩⟩
theorem cd_X2_foundPages : Cond.code yX2_foundPages cX2_foundPages 3 (some .int) ∈ xG := (xg 1269 (by decide +kernel) (by decide +kernel))
theorem pr_X2_foundPages : (∀ e ∈ pX2_foundPages, xrow cX2_foundPages 3 kdX2 flX2 0 false RX2 e) ∧ xnext pX2_foundPages = true := xrows (by decide +kernel)
set_option maxRecDepth 100000 in
theorem wx_X2_foundPages_15 (X : xCtx p R S0 m ag c0 D cA A0 sA 3 cX2_foundPages RX2 (.code yX2_foundPages cX2_foundPages 3 (some .int) :: xG) 0 0) (hi : meth.name = yX2_foundPages.name) (hroom : 7 + 2 ≤ R.frames ∧ 60 * (7 + 2) ≤ R.locals) {rr : Int32 × xM} (hE : xEnd l D cA sA cX2_foundPages 3 (some .int) R 0 0 (some (.inl rr.1)) rr.2 p e S0 m ag below meth c0 A0 M0 ad0 Z) (fu : Nat) : ∀ (n : Nat) (s : Nat) (x1 : Int32) (x2 : Int32) (M : xM), L_X2_foundPages_15 fu n s x1 x2 M = some rr → xWx p l e R S0 m ag below meth c0 D cA A0 sA M0 ad0 3 Z 0 0 15 0 0 [(0, .inr (.inr (2, some s))), (1, .inl x1), (2, .inl x2)] [] M := by
  intro n
  induction n with
  | zero => intro s x1 x2 M h; cases h
  | succ n ih =>
    intro s x1 x2 M h
    rw [← q_X2_foundPages_15 fu n s x1 x2 M] at h
    have hT : ∀ w ∈ xG, w ∈ (Cond.code yX2_foundPages cX2_foundPages 3 (some .int) :: xG) := fun w hw => List.mem_cons_of_mem _ hw
    refine xrun_sound (nst := 0) (isInit := false) (kd := kdX2) X (xcls_mono hT xclsG) (xpool_mono hT plX2) (fun z => by cases z) (fun idx v hf => xkoE_mono hT (koX2_ok _ (xfind_mem hf))) (xents (ca := _) ?_) (endI hE).1 (endI hE).2 (xcuts (cu := _) ?_) pr_X2_foundPages.1 pr_X2_foundPages.2 _ _ _ _ _ _ _ _ (xat_ok pr_X2_foundPages.1 pr_X2_foundPages.2).1 (xat_ok pr_X2_foundPages.1 pr_X2_foundPages.2).2.1 (xat_ok pr_X2_foundPages.1 pr_X2_foundPages.2).2.2 h
    · exact (fun _ h => nomatch h)
    · refine (List.forall_mem_cons.mpr ⟨?_, (fun _ h => nomatch h)⟩)
      · intro bc bs ls st M h
        replace h := xz_some h
        obtain ⟨rfl, rfl, h⟩ := h
        replace h := lR_some h
        obtain ⟨o, e0, h⟩ := h
        replace h := bd_some h
        obtain ⟨s', rfl, h⟩ := h
        replace h := lI_some h
        obtain ⟨x1', e1, h⟩ := h
        replace h := lI_some h
        obtain ⟨x2', e2, h⟩ := h
        replace h := xe_some h
        obtain ⟨rfl, h⟩ := h
        exact xWx_ls (ih s' x1' x2' M h) (List.forall_mem_cons.mpr ⟨e0, (List.forall_mem_cons.mpr ⟨e1, (List.forall_mem_cons.mpr ⟨e2, (fun _ h => nomatch h)⟩)⟩)⟩)

set_option maxRecDepth 100000 in
theorem wx_X2_foundPages (X : xCtx p R S0 m ag c0 D cA A0 sA 3 cX2_foundPages RX2 (.code yX2_foundPages cX2_foundPages 3 (some .int) :: xG) 0 0) (hi : meth.name = yX2_foundPages.name) (hroom : 7 + 2 ≤ R.frames ∧ 60 * (7 + 2) ≤ R.locals) {rr : Int32 × xM} (hE : xEnd l D cA sA cX2_foundPages 3 (some .int) R 0 0 (some (.inl rr.1)) rr.2 p e S0 m ag below meth c0 A0 M0 ad0 Z) (fu : Nat) (s : Nat) (M : xM) (h : F_X2_foundPages fu s M = some rr) : xWx p l e R S0 m ag below meth c0 D cA A0 sA M0 ad0 3 Z 0 0 0 0 0 [(0, .inr (.inr (2, some s)))] [] M := by
  rw [← q_X2_foundPages fu s M] at h
  have hT : ∀ w ∈ xG, w ∈ (Cond.code yX2_foundPages cX2_foundPages 3 (some .int) :: xG) := fun w hw => List.mem_cons_of_mem _ hw
  refine xrun_sound (nst := 0) (isInit := false) (kd := kdX2) X (xcls_mono hT xclsG) (xpool_mono hT plX2) (fun z => by cases z) (fun idx v hf => xkoE_mono hT (koX2_ok _ (xfind_mem hf))) (xents (ca := _) ?_) (endI hE).1 (endI hE).2 (xcuts (cu := _) ?_) pr_X2_foundPages.1 pr_X2_foundPages.2 _ _ _ _ _ _ _ _ (xat_ok pr_X2_foundPages.1 pr_X2_foundPages.2).1 (xat_ok pr_X2_foundPages.1 pr_X2_foundPages.2).2.1 (xat_ok pr_X2_foundPages.1 pr_X2_foundPages.2).2.2 h
  · exact (List.forall_mem_cons.mpr ⟨(xent_met X (ci := 4) hT cd_X4_find lk_X2_106 rfl (by decide) rfl (by decide +kernel) (fun z => absurd z (by decide)) (hw_X4_find l D cA sA fu 0) (fun _ => ⟨by decide, fun _ => ⟨TX4, 4, rfl⟩⟩) (by constructor <;> omega) (by decide)), (fun _ h => nomatch h)⟩)
  · refine (List.forall_mem_cons.mpr ⟨?_, (fun _ h => nomatch h)⟩)
    · intro bc bs ls st M h
      replace h := xz_some h
      obtain ⟨rfl, rfl, h⟩ := h
      replace h := lR_some h
      obtain ⟨o, e0, h⟩ := h
      replace h := bd_some h
      obtain ⟨s', rfl, h⟩ := h
      replace h := lI_some h
      obtain ⟨x1', e1, h⟩ := h
      replace h := lI_some h
      obtain ⟨x2', e2, h⟩ := h
      replace h := xe_some h
      obtain ⟨rfl, h⟩ := h
      exact xWx_ls (wx_X2_foundPages_15 X hi hroom hE fu fu s' x1' x2' M h) (List.forall_mem_cons.mpr ⟨e0, (List.forall_mem_cons.mpr ⟨e1, (List.forall_mem_cons.mpr ⟨e2, (fun _ h => nomatch h)⟩)⟩)⟩)

theorem ok_X2_foundPages (l : Launch) (D : va_G) (cA : Nat → ClassId) (sA : Nat → Nat) (fu : Nat) (s : Nat) (M : xM) {rr : Int32 × xM} (h : F_X2_foundPages fu s M = some rr) : xMet l D cA sA yX2_foundPages cX2_foundPages 3 (some .int) xG (7 + 1) 0 0 [.inr (.inr (2, some s))] M (some (.inl rr.1)) rr.2 :=
  xmet_of (by decide +kernel) (Nat.le_of_ble_eq_true rfl) (fun p e s1 m ag below meth c0 A0 ad0 Z X hn hE => wx_X2_foundPages X hn ⟨Nat.le_refl _, Nat.le_refl _⟩ hE fu s M h)
theorem hw_X2_foundPages (l : Launch) (D : va_G) (cA : Nat → ClassId) (sA : Nat → Nat) (fu : Nat) {ρ : Type} {r0 : ρ} (kd1 : Nat) : ∀ (as : List xV) (M : xM) (k : Option xV → xM → Option ρ), w_X2_foundPages fu as M k = some r0 → ∃ v M', xMet l D cA sA yX2_foundPages cX2_foundPages 3 (some .int) xG (7 + 1) 0 0 as M v M' ∧ k v M' = some r0 ∧ (kd1 ≠ 2 → ∃ a as', as = .inr (.inr (2, some a)) :: as') := by
  intro as M k h
  unfold w_X2_foundPages at h
  replace h := pR_some h
  obtain ⟨o, as1, rfl, h⟩ := h
  replace h := bd_some h
  obtain ⟨s, rfl, h⟩ := h
  replace h := xe_some h
  obtain ⟨rfl, h⟩ := h
  obtain ⟨p1, hp, h⟩ := Option.bind_eq_some_iff.mp h
  exact ⟨_, _, ok_X2_foundPages l D cA sA fu s M hp, h, fun _ => ⟨_, _, rfl⟩⟩
theorem lk_X11_256 : xLink xG RX11 256 0 yX2_foundPages 0 := ⟨Or.inl (xg 1266 (by decide +kernel) (by decide +kernel)), (xg 1267 (by decide +kernel) (by decide +kernel)), (xg 1268 (by decide +kernel) (by decide +kernel)), (xg 134 (by decide +kernel) (by decide +kernel)), ⟨2, by decide, TX2, 16, rfl⟩⟩
theorem cd_X11_found : Cond.code yX11_found cX11_found 1 (some .int) ∈ xG := (xg 1265 (by decide +kernel) (by decide +kernel))
theorem pr_X11_found : (∀ e ∈ pX11_found, xrow cX11_found 1 kdX11 flX11 0 false RX11 e) ∧ xnext pX11_found = true := xrows (by decide +kernel)
set_option maxRecDepth 100000 in
theorem wx_X11_found (X : xCtx p R S0 m ag c0 D cA A0 sA 1 cX11_found RX11 (.code yX11_found cX11_found 1 (some .int) :: xG) 0 0) (hi : meth.name = yX11_found.name) (hroom : 8 + 2 ≤ R.frames ∧ 60 * (8 + 2) ≤ R.locals) {rr : Int32 × xM} (hE : xEnd l D cA sA cX11_found 1 (some .int) R 0 0 (some (.inl rr.1)) rr.2 p e S0 m ag below meth c0 A0 M0 ad0 Z) (fu : Nat) (s : Nat) (M : xM) (h : F_X11_found fu s M = some rr) : xWx p l e R S0 m ag below meth c0 D cA A0 sA M0 ad0 1 Z 0 0 0 0 0 [(0, .inr (.inr (11, some s)))] [] M := by
  rw [← q_X11_found fu s M] at h
  have hT : ∀ w ∈ xG, w ∈ (Cond.code yX11_found cX11_found 1 (some .int) :: xG) := fun w hw => List.mem_cons_of_mem _ hw
  refine xrun_sound (nst := 0) (isInit := false) (kd := kdX11) X (xcls_mono hT xclsG) (xpool_mono hT plX11) (fun z => by cases z) (fun idx v hf => xkoE_mono hT (koX11_ok _ (xfind_mem hf))) (xents (ca := _) ?_) (endI hE).1 (endI hE).2 (xcuts (cu := _) ?_) pr_X11_found.1 pr_X11_found.2 _ _ _ _ _ _ _ _ (xat_ok pr_X11_found.1 pr_X11_found.2).1 (xat_ok pr_X11_found.1 pr_X11_found.2).2.1 (xat_ok pr_X11_found.1 pr_X11_found.2).2.2 h
  · exact (List.forall_mem_cons.mpr ⟨(xent_met X (ci := 2) hT cd_X2_foundPages lk_X11_256 rfl (by decide) rfl (by decide +kernel) (fun z => absurd z (by decide)) (hw_X2_foundPages l D cA sA fu 0) (fun _ => ⟨by decide, fun _ => ⟨TX2, 16, rfl⟩⟩) (by constructor <;> omega) (by decide)), (fun _ h => nomatch h)⟩)
  · exact (fun _ h => nomatch h)

theorem ok_X11_found (l : Launch) (D : va_G) (cA : Nat → ClassId) (sA : Nat → Nat) (fu : Nat) (s : Nat) (M : xM) {rr : Int32 × xM} (h : F_X11_found fu s M = some rr) : xMet l D cA sA yX11_found cX11_found 1 (some .int) xG (8 + 1) 0 0 [.inr (.inr (11, some s))] M (some (.inl rr.1)) rr.2 :=
  xmet_of (by decide +kernel) (Nat.le_of_ble_eq_true rfl) (fun p e s1 m ag below meth c0 A0 ad0 Z X hn hE => wx_X11_found X hn ⟨Nat.le_refl _, Nat.le_refl _⟩ hE fu s M h)
theorem hw_X11_found (l : Launch) (D : va_G) (cA : Nat → ClassId) (sA : Nat → Nat) (fu : Nat) {ρ : Type} {r0 : ρ} (kd1 : Nat) : ∀ (as : List xV) (M : xM) (k : Option xV → xM → Option ρ), w_X11_found fu as M k = some r0 → ∃ v M', xMet l D cA sA yX11_found cX11_found 1 (some .int) xG (8 + 1) 0 0 as M v M' ∧ k v M' = some r0 ∧ (kd1 ≠ 2 → ∃ a as', as = .inr (.inr (11, some a)) :: as') := by
  intro as M k h
  unfold w_X11_found at h
  replace h := pR_some h
  obtain ⟨o, as1, rfl, h⟩ := h
  replace h := bd_some h
  obtain ⟨s, rfl, h⟩ := h
  replace h := xe_some h
  obtain ⟨rfl, h⟩ := h
  obtain ⟨p1, hp, h⟩ := Option.bind_eq_some_iff.mp h
  exact ⟨_, _, ok_X11_found l D cA sA fu s M hp, h, fun _ => ⟨_, _, rfl⟩⟩
theorem cd_X2_gained : Cond.code yX2_gained cX2_gained 2 (some .int) ∈ xG := (xg 1244 (by decide +kernel) (by decide +kernel))
theorem pr_X2_gained : (∀ e ∈ pX2_gained, xrow cX2_gained 2 kdX2 flX2 0 false RX2 e) ∧ xnext pX2_gained = true := xrows (by decide +kernel)
set_option maxRecDepth 100000 in
theorem wx_X2_gained (X : xCtx p R S0 m ag c0 D cA A0 sA 2 cX2_gained RX2 (.code yX2_gained cX2_gained 2 (some .int) :: xG) 0 0) (hi : meth.name = yX2_gained.name) (hroom : 3 + 2 ≤ R.frames ∧ 60 * (3 + 2) ≤ R.locals) {rr : Int32 × xM} (hE : xEnd l D cA sA cX2_gained 2 (some .int) R 0 0 (some (.inl rr.1)) rr.2 p e S0 m ag below meth c0 A0 M0 ad0 Z) (fu : Nat) (s : Nat) (M : xM) (h : F_X2_gained fu s M = some rr) : xWx p l e R S0 m ag below meth c0 D cA A0 sA M0 ad0 2 Z 0 0 0 0 0 [(0, .inr (.inr (2, some s)))] [] M := by
  rw [← q_X2_gained fu s M] at h
  have hT : ∀ w ∈ xG, w ∈ (Cond.code yX2_gained cX2_gained 2 (some .int) :: xG) := fun w hw => List.mem_cons_of_mem _ hw
  refine xrun_sound (nst := 0) (isInit := false) (kd := kdX2) X (xcls_mono hT xclsG) (xpool_mono hT plX2) (fun z => by cases z) (fun idx v hf => xkoE_mono hT (koX2_ok _ (xfind_mem hf))) (xents (ca := _) ?_) (endI hE).1 (endI hE).2 (xcuts (cu := _) ?_) pr_X2_gained.1 pr_X2_gained.2 _ _ _ _ _ _ _ _ (xat_ok pr_X2_gained.1 pr_X2_gained.2).1 (xat_ok pr_X2_gained.1 pr_X2_gained.2).2.1 (xat_ok pr_X2_gained.1 pr_X2_gained.2).2.2 h
  · exact (List.forall_mem_cons.mpr ⟨(xent_met X (ci := 2) hT cd_X2_picked lk_X2_226 rfl (by decide) rfl (by decide +kernel) (fun z => absurd z (by decide)) (hw_X2_picked l D cA sA fu 0) (fun _ => ⟨by decide, fun _ => ⟨TX2, 16, rfl⟩⟩) (by constructor <;> omega) (by decide)), (List.forall_mem_cons.mpr ⟨(xent_met X (ci := 2) hT cd_X2_dirtyIn lk_X2_246 rfl (by decide) rfl (by decide +kernel) (fun z => absurd z (by decide)) (hw_X2_dirtyIn l D cA sA fu 0) (fun _ => ⟨by decide, fun _ => ⟨TX2, 16, rfl⟩⟩) (by constructor <;> omega) (by decide)), (fun _ h => nomatch h)⟩)⟩)
  · exact (fun _ h => nomatch h)

theorem ok_X2_gained (l : Launch) (D : va_G) (cA : Nat → ClassId) (sA : Nat → Nat) (fu : Nat) (s : Nat) (M : xM) {rr : Int32 × xM} (h : F_X2_gained fu s M = some rr) : xMet l D cA sA yX2_gained cX2_gained 2 (some .int) xG (3 + 1) 0 0 [.inr (.inr (2, some s))] M (some (.inl rr.1)) rr.2 :=
  xmet_of (by decide +kernel) (Nat.le_of_ble_eq_true rfl) (fun p e s1 m ag below meth c0 A0 ad0 Z X hn hE => wx_X2_gained X hn ⟨Nat.le_refl _, Nat.le_refl _⟩ hE fu s M h)
theorem hw_X2_gained (l : Launch) (D : va_G) (cA : Nat → ClassId) (sA : Nat → Nat) (fu : Nat) {ρ : Type} {r0 : ρ} (kd1 : Nat) : ∀ (as : List xV) (M : xM) (k : Option xV → xM → Option ρ), w_X2_gained fu as M k = some r0 → ∃ v M', xMet l D cA sA yX2_gained cX2_gained 2 (some .int) xG (3 + 1) 0 0 as M v M' ∧ k v M' = some r0 ∧ (kd1 ≠ 2 → ∃ a as', as = .inr (.inr (2, some a)) :: as') := by
  intro as M k h
  unfold w_X2_gained at h
  replace h := pR_some h
  obtain ⟨o, as1, rfl, h⟩ := h
  replace h := bd_some h
  obtain ⟨s, rfl, h⟩ := h
  replace h := xe_some h
  obtain ⟨rfl, h⟩ := h
  obtain ⟨p1, hp, h⟩ := Option.bind_eq_some_iff.mp h
  exact ⟨_, _, ok_X2_gained l D cA sA fu s M hp, h, fun _ => ⟨_, _, rfl⟩⟩
theorem lk_X11_243 : xLink xG RX11 243 0 yX2_gained 0 := ⟨Or.inl (xg 1241 (by decide +kernel) (by decide +kernel)), (xg 1242 (by decide +kernel) (by decide +kernel)), (xg 1243 (by decide +kernel) (by decide +kernel)), (xg 134 (by decide +kernel) (by decide +kernel)), ⟨2, by decide, TX2, 16, rfl⟩⟩
theorem cd_X11_gain : Cond.code yX11_gain cX11_gain 1 (some .int) ∈ xG := (xg 1240 (by decide +kernel) (by decide +kernel))
theorem pr_X11_gain : (∀ e ∈ pX11_gain, xrow cX11_gain 1 kdX11 flX11 0 false RX11 e) ∧ xnext pX11_gain = true := xrows (by decide +kernel)
set_option maxRecDepth 100000 in
theorem wx_X11_gain (X : xCtx p R S0 m ag c0 D cA A0 sA 1 cX11_gain RX11 (.code yX11_gain cX11_gain 1 (some .int) :: xG) 0 0) (hi : meth.name = yX11_gain.name) (hroom : 4 + 2 ≤ R.frames ∧ 60 * (4 + 2) ≤ R.locals) {rr : Int32 × xM} (hE : xEnd l D cA sA cX11_gain 1 (some .int) R 0 0 (some (.inl rr.1)) rr.2 p e S0 m ag below meth c0 A0 M0 ad0 Z) (fu : Nat) (s : Nat) (M : xM) (h : F_X11_gain fu s M = some rr) : xWx p l e R S0 m ag below meth c0 D cA A0 sA M0 ad0 1 Z 0 0 0 0 0 [(0, .inr (.inr (11, some s)))] [] M := by
  rw [← q_X11_gain fu s M] at h
  have hT : ∀ w ∈ xG, w ∈ (Cond.code yX11_gain cX11_gain 1 (some .int) :: xG) := fun w hw => List.mem_cons_of_mem _ hw
  refine xrun_sound (nst := 0) (isInit := false) (kd := kdX11) X (xcls_mono hT xclsG) (xpool_mono hT plX11) (fun z => by cases z) (fun idx v hf => xkoE_mono hT (koX11_ok _ (xfind_mem hf))) (xents (ca := _) ?_) (endI hE).1 (endI hE).2 (xcuts (cu := _) ?_) pr_X11_gain.1 pr_X11_gain.2 _ _ _ _ _ _ _ _ (xat_ok pr_X11_gain.1 pr_X11_gain.2).1 (xat_ok pr_X11_gain.1 pr_X11_gain.2).2.1 (xat_ok pr_X11_gain.1 pr_X11_gain.2).2.2 h
  · exact (List.forall_mem_cons.mpr ⟨(xent_met X (ci := 2) hT cd_X2_gained lk_X11_243 rfl (by decide) rfl (by decide +kernel) (fun z => absurd z (by decide)) (hw_X2_gained l D cA sA fu 0) (fun _ => ⟨by decide, fun _ => ⟨TX2, 16, rfl⟩⟩) (by constructor <;> omega) (by decide)), (fun _ h => nomatch h)⟩)
  · exact (fun _ h => nomatch h)

theorem ok_X11_gain (l : Launch) (D : va_G) (cA : Nat → ClassId) (sA : Nat → Nat) (fu : Nat) (s : Nat) (M : xM) {rr : Int32 × xM} (h : F_X11_gain fu s M = some rr) : xMet l D cA sA yX11_gain cX11_gain 1 (some .int) xG (4 + 1) 0 0 [.inr (.inr (11, some s))] M (some (.inl rr.1)) rr.2 :=
  xmet_of (by decide +kernel) (Nat.le_of_ble_eq_true rfl) (fun p e s1 m ag below meth c0 A0 ad0 Z X hn hE => wx_X11_gain X hn ⟨Nat.le_refl _, Nat.le_refl _⟩ hE fu s M h)
theorem hw_X11_gain (l : Launch) (D : va_G) (cA : Nat → ClassId) (sA : Nat → Nat) (fu : Nat) {ρ : Type} {r0 : ρ} (kd1 : Nat) : ∀ (as : List xV) (M : xM) (k : Option xV → xM → Option ρ), w_X11_gain fu as M k = some r0 → ∃ v M', xMet l D cA sA yX11_gain cX11_gain 1 (some .int) xG (4 + 1) 0 0 as M v M' ∧ k v M' = some r0 ∧ (kd1 ≠ 2 → ∃ a as', as = .inr (.inr (11, some a)) :: as') := by
  intro as M k h
  unfold w_X11_gain at h
  replace h := pR_some h
  obtain ⟨o, as1, rfl, h⟩ := h
  replace h := bd_some h
  obtain ⟨s, rfl, h⟩ := h
  replace h := xe_some h
  obtain ⟨rfl, h⟩ := h
  obtain ⟨p1, hp, h⟩ := Option.bind_eq_some_iff.mp h
  exact ⟨_, _, ok_X11_gain l D cA sA fu s M hp, h, fun _ => ⟨_, _, rfl⟩⟩
theorem cd_X11_halves : Cond.code yX11_halves cX11_halves 1 (some .int) ∈ xG := (xg 1351 (by decide +kernel) (by decide +kernel))
theorem pr_X11_halves : (∀ e ∈ pX11_halves, xrow cX11_halves 1 kdX11 flX11 0 false RX11 e) ∧ xnext pX11_halves = true := xrows (by decide +kernel)
set_option maxRecDepth 100000 in
theorem wx_X11_halves (X : xCtx p R S0 m ag c0 D cA A0 sA 1 cX11_halves RX11 (.code yX11_halves cX11_halves 1 (some .int) :: xG) 0 0) (hi : meth.name = yX11_halves.name) (hroom : 12 + 2 ≤ R.frames ∧ 60 * (12 + 2) ≤ R.locals) {rr : Int32 × xM} (hE : xEnd l D cA sA cX11_halves 1 (some .int) R 0 0 (some (.inl rr.1)) rr.2 p e S0 m ag below meth c0 A0 M0 ad0 Z) (fu : Nat) (s : Nat) (M : xM) (h : F_X11_halves fu s M = some rr) : xWx p l e R S0 m ag below meth c0 D cA A0 sA M0 ad0 1 Z 0 0 0 0 0 [(0, .inr (.inr (11, some s)))] [] M := by
  rw [← q_X11_halves fu s M] at h
  have hT : ∀ w ∈ xG, w ∈ (Cond.code yX11_halves cX11_halves 1 (some .int) :: xG) := fun w hw => List.mem_cons_of_mem _ hw
  refine xrun_sound (nst := 0) (isInit := false) (kd := kdX11) X (xcls_mono hT xclsG) (xpool_mono hT plX11) (fun z => by cases z) (fun idx v hf => xkoE_mono hT (koX11_ok _ (xfind_mem hf))) (xents (ca := _) ?_) (endI hE).1 (endI hE).2 (xcuts (cu := _) ?_) pr_X11_halves.1 pr_X11_halves.2 _ _ _ _ _ _ _ _ (xat_ok pr_X11_halves.1 pr_X11_halves.2).1 (xat_ok pr_X11_halves.1 pr_X11_halves.2).2.1 (xat_ok pr_X11_halves.1 pr_X11_halves.2).2.2 h
  · exact (List.forall_mem_cons.mpr ⟨(xent_met X (ci := 5) hT cd_X5_run lk_X11_207 rfl (by decide) rfl (by decide +kernel) (fun z => absurd z (by decide)) (hw_X5_run l D cA sA fu 0) (fun _ => ⟨by decide, fun _ => ⟨TX5, 7, rfl⟩⟩) (by constructor <;> omega) (by decide)), (fun _ h => nomatch h)⟩)
  · exact (fun _ h => nomatch h)

theorem ok_X11_halves (l : Launch) (D : va_G) (cA : Nat → ClassId) (sA : Nat → Nat) (fu : Nat) (s : Nat) (M : xM) {rr : Int32 × xM} (h : F_X11_halves fu s M = some rr) : xMet l D cA sA yX11_halves cX11_halves 1 (some .int) xG (12 + 1) 0 0 [.inr (.inr (11, some s))] M (some (.inl rr.1)) rr.2 :=
  xmet_of (by decide +kernel) (Nat.le_of_ble_eq_true rfl) (fun p e s1 m ag below meth c0 A0 ad0 Z X hn hE => wx_X11_halves X hn ⟨Nat.le_refl _, Nat.le_refl _⟩ hE fu s M h)
theorem hw_X11_halves (l : Launch) (D : va_G) (cA : Nat → ClassId) (sA : Nat → Nat) (fu : Nat) {ρ : Type} {r0 : ρ} (kd1 : Nat) : ∀ (as : List xV) (M : xM) (k : Option xV → xM → Option ρ), w_X11_halves fu as M k = some r0 → ∃ v M', xMet l D cA sA yX11_halves cX11_halves 1 (some .int) xG (12 + 1) 0 0 as M v M' ∧ k v M' = some r0 ∧ (kd1 ≠ 2 → ∃ a as', as = .inr (.inr (11, some a)) :: as') := by
  intro as M k h
  unfold w_X11_halves at h
  replace h := pR_some h
  obtain ⟨o, as1, rfl, h⟩ := h
  replace h := bd_some h
  obtain ⟨s, rfl, h⟩ := h
  replace h := xe_some h
  obtain ⟨rfl, h⟩ := h
  obtain ⟨p1, hp, h⟩ := Option.bind_eq_some_iff.mp h
  exact ⟨_, _, ok_X11_halves l D cA sA fu s M hp, h, fun _ => ⟨_, _, rfl⟩⟩
theorem cd_X2_dirtyDataOf : Cond.code yX2_dirtyDataOf cX2_dirtyDataOf 4 (some .int) ∈ xG := (xg 1317 (by decide +kernel) (by decide +kernel))
theorem pr_X2_dirtyDataOf : (∀ e ∈ pX2_dirtyDataOf, xrow cX2_dirtyDataOf 4 kdX2 flX2 0 false RX2 e) ∧ xnext pX2_dirtyDataOf = true := xrows (by decide +kernel)
set_option maxRecDepth 100000 in
theorem wx_X2_dirtyDataOf_8 (X : xCtx p R S0 m ag c0 D cA A0 sA 4 cX2_dirtyDataOf RX2 (.code yX2_dirtyDataOf cX2_dirtyDataOf 4 (some .int) :: xG) 0 0) (hi : meth.name = yX2_dirtyDataOf.name) (hroom : 2 + 2 ≤ R.frames ∧ 60 * (2 + 2) ≤ R.locals) {rr : Int32 × xM} (hE : xEnd l D cA sA cX2_dirtyDataOf 4 (some .int) R 0 0 (some (.inl rr.1)) rr.2 p e S0 m ag below meth c0 A0 M0 ad0 Z) (fu : Nat) : ∀ (n : Nat) (s : Nat) (x1 : Int32) (x2 : Int32) (x3 : Int32) (M : xM), L_X2_dirtyDataOf_8 fu n s x1 x2 x3 M = some rr → xWx p l e R S0 m ag below meth c0 D cA A0 sA M0 ad0 4 Z 0 0 8 0 0 [(0, .inr (.inr (2, some s))), (1, .inl x1), (2, .inl x2), (3, .inl x3)] [] M := by
  intro n
  induction n with
  | zero => intro s x1 x2 x3 M h; cases h
  | succ n ih =>
    intro s x1 x2 x3 M h
    rw [← q_X2_dirtyDataOf_8 fu n s x1 x2 x3 M] at h
    have hT : ∀ w ∈ xG, w ∈ (Cond.code yX2_dirtyDataOf cX2_dirtyDataOf 4 (some .int) :: xG) := fun w hw => List.mem_cons_of_mem _ hw
    refine xrun_sound (nst := 0) (isInit := false) (kd := kdX2) X (xcls_mono hT xclsG) (xpool_mono hT plX2) (fun z => by cases z) (fun idx v hf => xkoE_mono hT (koX2_ok _ (xfind_mem hf))) (xents (ca := _) ?_) (endI hE).1 (endI hE).2 (xcuts (cu := _) ?_) pr_X2_dirtyDataOf.1 pr_X2_dirtyDataOf.2 _ _ _ _ _ _ _ _ (xat_ok pr_X2_dirtyDataOf.1 pr_X2_dirtyDataOf.2).1 (xat_ok pr_X2_dirtyDataOf.1 pr_X2_dirtyDataOf.2).2.1 (xat_ok pr_X2_dirtyDataOf.1 pr_X2_dirtyDataOf.2).2.2 h
    · exact (fun _ h => nomatch h)
    · refine (List.forall_mem_cons.mpr ⟨?_, (fun _ h => nomatch h)⟩)
      · intro bc bs ls st M h
        replace h := xz_some h
        obtain ⟨rfl, rfl, h⟩ := h
        replace h := lR_some h
        obtain ⟨o, e0, h⟩ := h
        replace h := bd_some h
        obtain ⟨s', rfl, h⟩ := h
        replace h := lI_some h
        obtain ⟨x1', e1, h⟩ := h
        replace h := lI_some h
        obtain ⟨x2', e2, h⟩ := h
        replace h := lI_some h
        obtain ⟨x3', e3, h⟩ := h
        replace h := xe_some h
        obtain ⟨rfl, h⟩ := h
        exact xWx_ls (ih s' x1' x2' x3' M h) (List.forall_mem_cons.mpr ⟨e0, (List.forall_mem_cons.mpr ⟨e1, (List.forall_mem_cons.mpr ⟨e2, (List.forall_mem_cons.mpr ⟨e3, (fun _ h => nomatch h)⟩)⟩)⟩)⟩)

set_option maxRecDepth 100000 in
theorem wx_X2_dirtyDataOf (X : xCtx p R S0 m ag c0 D cA A0 sA 4 cX2_dirtyDataOf RX2 (.code yX2_dirtyDataOf cX2_dirtyDataOf 4 (some .int) :: xG) 0 0) (hi : meth.name = yX2_dirtyDataOf.name) (hroom : 2 + 2 ≤ R.frames ∧ 60 * (2 + 2) ≤ R.locals) {rr : Int32 × xM} (hE : xEnd l D cA sA cX2_dirtyDataOf 4 (some .int) R 0 0 (some (.inl rr.1)) rr.2 p e S0 m ag below meth c0 A0 M0 ad0 Z) (fu : Nat) (s : Nat) (x1 : Int32) (M : xM) (h : F_X2_dirtyDataOf fu s x1 M = some rr) : xWx p l e R S0 m ag below meth c0 D cA A0 sA M0 ad0 4 Z 0 0 0 0 0 [(0, .inr (.inr (2, some s))), (1, .inl x1)] [] M := by
  rw [← q_X2_dirtyDataOf fu s x1 M] at h
  have hT : ∀ w ∈ xG, w ∈ (Cond.code yX2_dirtyDataOf cX2_dirtyDataOf 4 (some .int) :: xG) := fun w hw => List.mem_cons_of_mem _ hw
  refine xrun_sound (nst := 0) (isInit := false) (kd := kdX2) X (xcls_mono hT xclsG) (xpool_mono hT plX2) (fun z => by cases z) (fun idx v hf => xkoE_mono hT (koX2_ok _ (xfind_mem hf))) (xents (ca := _) ?_) (endI hE).1 (endI hE).2 (xcuts (cu := _) ?_) pr_X2_dirtyDataOf.1 pr_X2_dirtyDataOf.2 _ _ _ _ _ _ _ _ (xat_ok pr_X2_dirtyDataOf.1 pr_X2_dirtyDataOf.2).1 (xat_ok pr_X2_dirtyDataOf.1 pr_X2_dirtyDataOf.2).2.1 (xat_ok pr_X2_dirtyDataOf.1 pr_X2_dirtyDataOf.2).2.2 h
  · exact (List.forall_mem_cons.mpr ⟨(xent_met X (ci := 2) hT cd_X2_survey lk_X2_174 rfl (by decide) rfl (by decide +kernel) (fun z => absurd z (by decide)) (hw_X2_survey l D cA sA fu 0) (fun _ => ⟨by decide, fun _ => ⟨TX2, 16, rfl⟩⟩) (by constructor <;> omega) (by decide)), (fun _ h => nomatch h)⟩)
  · refine (List.forall_mem_cons.mpr ⟨?_, (fun _ h => nomatch h)⟩)
    · intro bc bs ls st M h
      replace h := xz_some h
      obtain ⟨rfl, rfl, h⟩ := h
      replace h := lR_some h
      obtain ⟨o, e0, h⟩ := h
      replace h := bd_some h
      obtain ⟨s', rfl, h⟩ := h
      replace h := lI_some h
      obtain ⟨x1', e1, h⟩ := h
      replace h := lI_some h
      obtain ⟨x2', e2, h⟩ := h
      replace h := lI_some h
      obtain ⟨x3', e3, h⟩ := h
      replace h := xe_some h
      obtain ⟨rfl, h⟩ := h
      exact xWx_ls (wx_X2_dirtyDataOf_8 X hi hroom hE fu fu s' x1' x2' x3' M h) (List.forall_mem_cons.mpr ⟨e0, (List.forall_mem_cons.mpr ⟨e1, (List.forall_mem_cons.mpr ⟨e2, (List.forall_mem_cons.mpr ⟨e3, (fun _ h => nomatch h)⟩)⟩)⟩)⟩)

theorem ok_X2_dirtyDataOf (l : Launch) (D : va_G) (cA : Nat → ClassId) (sA : Nat → Nat) (fu : Nat) (s : Nat) (x1 : Int32) (M : xM) {rr : Int32 × xM} (h : F_X2_dirtyDataOf fu s x1 M = some rr) : xMet l D cA sA yX2_dirtyDataOf cX2_dirtyDataOf 4 (some .int) xG (2 + 1) 0 0 [.inr (.inr (2, some s)), .inl x1] M (some (.inl rr.1)) rr.2 :=
  xmet_of (by decide +kernel) (Nat.le_of_ble_eq_true rfl) (fun p e s1 m ag below meth c0 A0 ad0 Z X hn hE => wx_X2_dirtyDataOf X hn ⟨Nat.le_refl _, Nat.le_refl _⟩ hE fu s x1 M h)
theorem hw_X2_dirtyDataOf (l : Launch) (D : va_G) (cA : Nat → ClassId) (sA : Nat → Nat) (fu : Nat) {ρ : Type} {r0 : ρ} (kd1 : Nat) : ∀ (as : List xV) (M : xM) (k : Option xV → xM → Option ρ), w_X2_dirtyDataOf fu as M k = some r0 → ∃ v M', xMet l D cA sA yX2_dirtyDataOf cX2_dirtyDataOf 4 (some .int) xG (2 + 1) 0 0 as M v M' ∧ k v M' = some r0 ∧ (kd1 ≠ 2 → ∃ a as', as = .inr (.inr (2, some a)) :: as') := by
  intro as M k h
  unfold w_X2_dirtyDataOf at h
  replace h := pR_some h
  obtain ⟨o, as1, rfl, h⟩ := h
  replace h := bd_some h
  obtain ⟨s, rfl, h⟩ := h
  replace h := pI_some h
  obtain ⟨x1, as1, rfl, h⟩ := h
  replace h := xe_some h
  obtain ⟨rfl, h⟩ := h
  obtain ⟨p1, hp, h⟩ := Option.bind_eq_some_iff.mp h
  exact ⟨_, _, ok_X2_dirtyDataOf l D cA sA fu s x1 M hp, h, fun _ => ⟨_, _, rfl⟩⟩
theorem lk_X2_294 : xLink xG RX2 294 0 yX2_dirtyDataOf 1 := ⟨Or.inl (xg 1314 (by decide +kernel) (by decide +kernel)), (xg 1316 (by decide +kernel) (by decide +kernel)), (xg 35 (by decide +kernel) (by decide +kernel)), (xg 134 (by decide +kernel) (by decide +kernel)), ⟨2, by decide, TX2, 16, rfl⟩⟩
theorem cd_X2_hottestFile : Cond.code yX2_hottestFile cX2_hottestFile 5 (some .int) ∈ xG := (xg 1313 (by decide +kernel) (by decide +kernel))
theorem pr_X2_hottestFile : (∀ e ∈ pX2_hottestFile, xrow cX2_hottestFile 5 kdX2 flX2 0 false RX2 e) ∧ xnext pX2_hottestFile = true := xrows (by decide +kernel)
set_option maxRecDepth 100000 in
theorem wx_X2_hottestFile_6 (X : xCtx p R S0 m ag c0 D cA A0 sA 5 cX2_hottestFile RX2 (.code yX2_hottestFile cX2_hottestFile 5 (some .int) :: xG) 0 0) (hi : meth.name = yX2_hottestFile.name) (hroom : 3 + 2 ≤ R.frames ∧ 60 * (3 + 2) ≤ R.locals) {rr : Int32 × xM} (hE : xEnd l D cA sA cX2_hottestFile 5 (some .int) R 0 0 (some (.inl rr.1)) rr.2 p e S0 m ag below meth c0 A0 M0 ad0 Z) (fu : Nat) : ∀ (n : Nat) (s : Nat) (x1 : Int32) (x2 : Int32) (x3 : Int32) (M : xM), L_X2_hottestFile_6 fu n s x1 x2 x3 M = some rr → xWx p l e R S0 m ag below meth c0 D cA A0 sA M0 ad0 5 Z 0 0 6 0 0 [(0, .inr (.inr (2, some s))), (1, .inl x1), (2, .inl x2), (3, .inl x3)] [] M := by
  intro n
  induction n with
  | zero => intro s x1 x2 x3 M h; cases h
  | succ n ih =>
    intro s x1 x2 x3 M h
    rw [← q_X2_hottestFile_6 fu n s x1 x2 x3 M] at h
    have hT : ∀ w ∈ xG, w ∈ (Cond.code yX2_hottestFile cX2_hottestFile 5 (some .int) :: xG) := fun w hw => List.mem_cons_of_mem _ hw
    refine xrun_sound (nst := 0) (isInit := false) (kd := kdX2) X (xcls_mono hT xclsG) (xpool_mono hT plX2) (fun z => by cases z) (fun idx v hf => xkoE_mono hT (koX2_ok _ (xfind_mem hf))) (xents (ca := _) ?_) (endI hE).1 (endI hE).2 (xcuts (cu := _) ?_) pr_X2_hottestFile.1 pr_X2_hottestFile.2 _ _ _ _ _ _ _ _ (xat_ok pr_X2_hottestFile.1 pr_X2_hottestFile.2).1 (xat_ok pr_X2_hottestFile.1 pr_X2_hottestFile.2).2.1 (xat_ok pr_X2_hottestFile.1 pr_X2_hottestFile.2).2.2 h
    · exact (List.forall_mem_cons.mpr ⟨(xent_met X (ci := 2) hT cd_X2_dirtyDataOf lk_X2_294 rfl (by decide) rfl (by decide +kernel) (fun z => absurd z (by decide)) (hw_X2_dirtyDataOf l D cA sA fu 0) (fun _ => ⟨by decide, fun _ => ⟨TX2, 16, rfl⟩⟩) (by constructor <;> omega) (by decide)), (fun _ h => nomatch h)⟩)
    · refine (List.forall_mem_cons.mpr ⟨?_, (fun _ h => nomatch h)⟩)
      · intro bc bs ls st M h
        replace h := xz_some h
        obtain ⟨rfl, rfl, h⟩ := h
        replace h := lR_some h
        obtain ⟨o, e0, h⟩ := h
        replace h := bd_some h
        obtain ⟨s', rfl, h⟩ := h
        replace h := lI_some h
        obtain ⟨x1', e1, h⟩ := h
        replace h := lI_some h
        obtain ⟨x2', e2, h⟩ := h
        replace h := lI_some h
        obtain ⟨x3', e3, h⟩ := h
        replace h := xe_some h
        obtain ⟨rfl, h⟩ := h
        exact xWx_ls (ih s' x1' x2' x3' M h) (List.forall_mem_cons.mpr ⟨e0, (List.forall_mem_cons.mpr ⟨e1, (List.forall_mem_cons.mpr ⟨e2, (List.forall_mem_cons.mpr ⟨e3, (fun _ h => nomatch h)⟩)⟩)⟩)⟩)

set_option maxRecDepth 100000 in
theorem wx_X2_hottestFile (X : xCtx p R S0 m ag c0 D cA A0 sA 5 cX2_hottestFile RX2 (.code yX2_hottestFile cX2_hottestFile 5 (some .int) :: xG) 0 0) (hi : meth.name = yX2_hottestFile.name) (hroom : 3 + 2 ≤ R.frames ∧ 60 * (3 + 2) ≤ R.locals) {rr : Int32 × xM} (hE : xEnd l D cA sA cX2_hottestFile 5 (some .int) R 0 0 (some (.inl rr.1)) rr.2 p e S0 m ag below meth c0 A0 M0 ad0 Z) (fu : Nat) (s : Nat) (M : xM) (h : F_X2_hottestFile fu s M = some rr) : xWx p l e R S0 m ag below meth c0 D cA A0 sA M0 ad0 5 Z 0 0 0 0 0 [(0, .inr (.inr (2, some s)))] [] M := by
  rw [← q_X2_hottestFile fu s M] at h
  have hT : ∀ w ∈ xG, w ∈ (Cond.code yX2_hottestFile cX2_hottestFile 5 (some .int) :: xG) := fun w hw => List.mem_cons_of_mem _ hw
  refine xrun_sound (nst := 0) (isInit := false) (kd := kdX2) X (xcls_mono hT xclsG) (xpool_mono hT plX2) (fun z => by cases z) (fun idx v hf => xkoE_mono hT (koX2_ok _ (xfind_mem hf))) (xents (ca := _) ?_) (endI hE).1 (endI hE).2 (xcuts (cu := _) ?_) pr_X2_hottestFile.1 pr_X2_hottestFile.2 _ _ _ _ _ _ _ _ (xat_ok pr_X2_hottestFile.1 pr_X2_hottestFile.2).1 (xat_ok pr_X2_hottestFile.1 pr_X2_hottestFile.2).2.1 (xat_ok pr_X2_hottestFile.1 pr_X2_hottestFile.2).2.2 h
  · exact (fun _ h => nomatch h)
  · refine (List.forall_mem_cons.mpr ⟨?_, (fun _ h => nomatch h)⟩)
    · intro bc bs ls st M h
      replace h := xz_some h
      obtain ⟨rfl, rfl, h⟩ := h
      replace h := lR_some h
      obtain ⟨o, e0, h⟩ := h
      replace h := bd_some h
      obtain ⟨s', rfl, h⟩ := h
      replace h := lI_some h
      obtain ⟨x1', e1, h⟩ := h
      replace h := lI_some h
      obtain ⟨x2', e2, h⟩ := h
      replace h := lI_some h
      obtain ⟨x3', e3, h⟩ := h
      replace h := xe_some h
      obtain ⟨rfl, h⟩ := h
      exact xWx_ls (wx_X2_hottestFile_6 X hi hroom hE fu fu s' x1' x2' x3' M h) (List.forall_mem_cons.mpr ⟨e0, (List.forall_mem_cons.mpr ⟨e1, (List.forall_mem_cons.mpr ⟨e2, (List.forall_mem_cons.mpr ⟨e3, (fun _ h => nomatch h)⟩)⟩)⟩)⟩)

theorem ok_X2_hottestFile (l : Launch) (D : va_G) (cA : Nat → ClassId) (sA : Nat → Nat) (fu : Nat) (s : Nat) (M : xM) {rr : Int32 × xM} (h : F_X2_hottestFile fu s M = some rr) : xMet l D cA sA yX2_hottestFile cX2_hottestFile 5 (some .int) xG (3 + 1) 0 0 [.inr (.inr (2, some s))] M (some (.inl rr.1)) rr.2 :=
  xmet_of (by decide +kernel) (Nat.le_of_ble_eq_true rfl) (fun p e s1 m ag below meth c0 A0 ad0 Z X hn hE => wx_X2_hottestFile X hn ⟨Nat.le_refl _, Nat.le_refl _⟩ hE fu s M h)
theorem hw_X2_hottestFile (l : Launch) (D : va_G) (cA : Nat → ClassId) (sA : Nat → Nat) (fu : Nat) {ρ : Type} {r0 : ρ} (kd1 : Nat) : ∀ (as : List xV) (M : xM) (k : Option xV → xM → Option ρ), w_X2_hottestFile fu as M k = some r0 → ∃ v M', xMet l D cA sA yX2_hottestFile cX2_hottestFile 5 (some .int) xG (3 + 1) 0 0 as M v M' ∧ k v M' = some r0 ∧ (kd1 ≠ 2 → ∃ a as', as = .inr (.inr (2, some a)) :: as') := by
  intro as M k h
  unfold w_X2_hottestFile at h
  replace h := pR_some h
  obtain ⟨o, as1, rfl, h⟩ := h
  replace h := bd_some h
  obtain ⟨s, rfl, h⟩ := h
  replace h := xe_some h
  obtain ⟨rfl, h⟩ := h
  obtain ⟨p1, hp, h⟩ := Option.bind_eq_some_iff.mp h
  exact ⟨_, _, ok_X2_hottestFile l D cA sA fu s M hp, h, fun _ => ⟨_, _, rfl⟩⟩
theorem lk_X11_275 : xLink xG RX11 275 0 yX2_hottestFile 0 := ⟨Or.inl (xg 1310 (by decide +kernel) (by decide +kernel)), (xg 1311 (by decide +kernel) (by decide +kernel)), (xg 1312 (by decide +kernel) (by decide +kernel)), (xg 134 (by decide +kernel) (by decide +kernel)), ⟨2, by decide, TX2, 16, rfl⟩⟩
theorem cd_X11_hot : Cond.code yX11_hot cX11_hot 1 (some .int) ∈ xG := (xg 1309 (by decide +kernel) (by decide +kernel))
theorem pr_X11_hot : (∀ e ∈ pX11_hot, xrow cX11_hot 1 kdX11 flX11 0 false RX11 e) ∧ xnext pX11_hot = true := xrows (by decide +kernel)
set_option maxRecDepth 100000 in
theorem wx_X11_hot (X : xCtx p R S0 m ag c0 D cA A0 sA 1 cX11_hot RX11 (.code yX11_hot cX11_hot 1 (some .int) :: xG) 0 0) (hi : meth.name = yX11_hot.name) (hroom : 4 + 2 ≤ R.frames ∧ 60 * (4 + 2) ≤ R.locals) {rr : Int32 × xM} (hE : xEnd l D cA sA cX11_hot 1 (some .int) R 0 0 (some (.inl rr.1)) rr.2 p e S0 m ag below meth c0 A0 M0 ad0 Z) (fu : Nat) (s : Nat) (M : xM) (h : F_X11_hot fu s M = some rr) : xWx p l e R S0 m ag below meth c0 D cA A0 sA M0 ad0 1 Z 0 0 0 0 0 [(0, .inr (.inr (11, some s)))] [] M := by
  rw [← q_X11_hot fu s M] at h
  have hT : ∀ w ∈ xG, w ∈ (Cond.code yX11_hot cX11_hot 1 (some .int) :: xG) := fun w hw => List.mem_cons_of_mem _ hw
  refine xrun_sound (nst := 0) (isInit := false) (kd := kdX11) X (xcls_mono hT xclsG) (xpool_mono hT plX11) (fun z => by cases z) (fun idx v hf => xkoE_mono hT (koX11_ok _ (xfind_mem hf))) (xents (ca := _) ?_) (endI hE).1 (endI hE).2 (xcuts (cu := _) ?_) pr_X11_hot.1 pr_X11_hot.2 _ _ _ _ _ _ _ _ (xat_ok pr_X11_hot.1 pr_X11_hot.2).1 (xat_ok pr_X11_hot.1 pr_X11_hot.2).2.1 (xat_ok pr_X11_hot.1 pr_X11_hot.2).2.2 h
  · exact (List.forall_mem_cons.mpr ⟨(xent_met X (ci := 2) hT cd_X2_hottestFile lk_X11_275 rfl (by decide) rfl (by decide +kernel) (fun z => absurd z (by decide)) (hw_X2_hottestFile l D cA sA fu 0) (fun _ => ⟨by decide, fun _ => ⟨TX2, 16, rfl⟩⟩) (by constructor <;> omega) (by decide)), (fun _ h => nomatch h)⟩)
  · exact (fun _ h => nomatch h)

theorem ok_X11_hot (l : Launch) (D : va_G) (cA : Nat → ClassId) (sA : Nat → Nat) (fu : Nat) (s : Nat) (M : xM) {rr : Int32 × xM} (h : F_X11_hot fu s M = some rr) : xMet l D cA sA yX11_hot cX11_hot 1 (some .int) xG (4 + 1) 0 0 [.inr (.inr (11, some s))] M (some (.inl rr.1)) rr.2 :=
  xmet_of (by decide +kernel) (Nat.le_of_ble_eq_true rfl) (fun p e s1 m ag below meth c0 A0 ad0 Z X hn hE => wx_X11_hot X hn ⟨Nat.le_refl _, Nat.le_refl _⟩ hE fu s M h)
theorem hw_X11_hot (l : Launch) (D : va_G) (cA : Nat → ClassId) (sA : Nat → Nat) (fu : Nat) {ρ : Type} {r0 : ρ} (kd1 : Nat) : ∀ (as : List xV) (M : xM) (k : Option xV → xM → Option ρ), w_X11_hot fu as M k = some r0 → ∃ v M', xMet l D cA sA yX11_hot cX11_hot 1 (some .int) xG (4 + 1) 0 0 as M v M' ∧ k v M' = some r0 ∧ (kd1 ≠ 2 → ∃ a as', as = .inr (.inr (11, some a)) :: as') := by
  intro as M k h
  unfold w_X11_hot at h
  replace h := pR_some h
  obtain ⟨o, as1, rfl, h⟩ := h
  replace h := bd_some h
  obtain ⟨s, rfl, h⟩ := h
  replace h := xe_some h
  obtain ⟨rfl, h⟩ := h
  obtain ⟨p1, hp, h⟩ := Option.bind_eq_some_iff.mp h
  exact ⟨_, _, ok_X11_hot l D cA sA fu s M hp, h, fun _ => ⟨_, _, rfl⟩⟩
theorem cd_X8_init : Cond.code yX8_init cX8_init 1 none ∈ xG := (xg 219 (by decide +kernel) (by decide +kernel))
theorem pr_X8_init : (∀ e ∈ pX8_init, xrow cX8_init 1 kdX8 flX8 0 true RX8 e) ∧ xnext pX8_init = true := xrows (by decide +kernel)
set_option maxRecDepth 100000 in
theorem wx_X8_init (X : xCtx p R S0 m ag c0 D cA A0 sA 1 cX8_init RX8 (.code yX8_init cX8_init 1 none :: xG) 3 1036) (hi : meth.name = yX8_init.name) (hroom : 0 + 2 ≤ R.frames ∧ 60 * (0 + 2) ≤ R.locals) {rr : xM} (hE : xEnd l D cA sA cX8_init 1 none R 3 1036 none rr p e S0 m ag below meth c0 A0 M0 ad0 Z) (fu : Nat) (s : Nat) (M : xM) (h : F_X8_init fu s M = some rr) : xWx p l e R S0 m ag below meth c0 D cA A0 sA M0 ad0 1 Z 3 1036 0 3 1036 [(0, .inr (.inr (8, some s)))] [] M := by
  rw [← q_X8_init fu s M] at h
  have hT : ∀ w ∈ xG, w ∈ (Cond.code yX8_init cX8_init 1 none :: xG) := fun w hw => List.mem_cons_of_mem _ hw
  refine xrun_sound (nst := 0) (isInit := true) (kd := kdX8) X (xcls_mono hT xclsG) (xpool_mono hT plX8) (fun _ => hi) (fun idx v hf => xkoE_mono hT (koX8_ok _ (xfind_mem hf))) (xents (ca := _) ?_) (endV hE).1 (endV hE).2 (xcuts (cu := _) ?_) pr_X8_init.1 pr_X8_init.2 _ _ _ _ _ _ _ _ (xat_ok pr_X8_init.1 pr_X8_init.2).1 (xat_ok pr_X8_init.1 pr_X8_init.2).2.1 (xat_ok pr_X8_init.1 pr_X8_init.2).2.2 h
  · exact (List.forall_mem_cons.mpr ⟨(xent_objInit X hT (xg 220 (by decide +kernel) (by decide +kernel)) (xg 159 (by decide +kernel) (by decide +kernel)) (xg 160 (by decide +kernel) (by decide +kernel)) rfl), (fun _ h => nomatch h)⟩)
  · exact (fun _ h => nomatch h)

theorem ok_X8_init (l : Launch) (D : va_G) (cA : Nat → ClassId) (sA : Nat → Nat) (fu : Nat) (s : Nat) (M : xM) {rr : xM} (h : F_X8_init fu s M = some rr) : xMet l D cA sA yX8_init cX8_init 1 none xG (0 + 1) 3 1036 [.inr (.inr (8, some s))] M none rr :=
  xmet_of (by decide +kernel) (Nat.le_of_ble_eq_true rfl) (fun p e s1 m ag below meth c0 A0 ad0 Z X hn hE => wx_X8_init X hn ⟨Nat.le_refl _, Nat.le_refl _⟩ hE fu s M h)
theorem hw_X8_init (l : Launch) (D : va_G) (cA : Nat → ClassId) (sA : Nat → Nat) (fu : Nat) {ρ : Type} {r0 : ρ} (kd1 : Nat) : ∀ (as : List xV) (M : xM) (k : Option xV → xM → Option ρ), w_X8_init fu as M k = some r0 → ∃ v M', xMet l D cA sA yX8_init cX8_init 1 none xG (0 + 1) 3 1036 as M v M' ∧ k v M' = some r0 ∧ (kd1 ≠ 2 → ∃ a as', as = .inr (.inr (8, some a)) :: as') := by
  intro as M k h
  unfold w_X8_init at h
  replace h := pR_some h
  obtain ⟨o, as1, rfl, h⟩ := h
  replace h := bd_some h
  obtain ⟨s, rfl, h⟩ := h
  replace h := xe_some h
  obtain ⟨rfl, h⟩ := h
  obtain ⟨p1, hp, h⟩ := Option.bind_eq_some_iff.mp h
  exact ⟨_, _, ok_X8_init l D cA sA fu s M hp, h, fun _ => ⟨_, _, rfl⟩⟩
theorem lk_X7_20 : xLink xG RX7 20 1 yX8_init 0 := ⟨Or.inr ⟨"FlashNodes", by decide +kernel⟩, (xg 218 (by decide +kernel) (by decide +kernel)), (xg 131 (by decide +kernel) (by decide +kernel)), rfl⟩
theorem cd_X7_init : Cond.code yX7_init cX7_init 1 none ∈ xG := (xg 213 (by decide +kernel) (by decide +kernel))
theorem pr_X7_init : (∀ e ∈ pX7_init, xrow cX7_init 1 kdX7 flX7 0 true RX7 e) ∧ xnext pX7_init = true := xrows (by decide +kernel)
set_option maxRecDepth 100000 in
theorem wx_X7_init (X : xCtx p R S0 m ag c0 D cA A0 sA 1 cX7_init RX7 (.code yX7_init cX7_init 1 none :: xG) 7 1055) (hi : meth.name = yX7_init.name) (hroom : 1 + 2 ≤ R.frames ∧ 60 * (1 + 2) ≤ R.locals) {rr : xM} (hE : xEnd l D cA sA cX7_init 1 none R 7 1055 none rr p e S0 m ag below meth c0 A0 M0 ad0 Z) (fu : Nat) (s : Nat) (M : xM) (h : F_X7_init fu s M = some rr) : xWx p l e R S0 m ag below meth c0 D cA A0 sA M0 ad0 1 Z 7 1055 0 7 1055 [(0, .inr (.inr (7, some s)))] [] M := by
  rw [← q_X7_init fu s M] at h
  have hT : ∀ w ∈ xG, w ∈ (Cond.code yX7_init cX7_init 1 none :: xG) := fun w hw => List.mem_cons_of_mem _ hw
  refine xrun_sound (nst := 0) (isInit := true) (kd := kdX7) X (xcls_mono hT xclsG) (xpool_mono hT plX7) (fun _ => hi) (fun idx v hf => xkoE_mono hT (koX7_ok _ (xfind_mem hf))) (xents (ca := _) ?_) (endV hE).1 (endV hE).2 (xcuts (cu := _) ?_) pr_X7_init.1 pr_X7_init.2 _ _ _ _ _ _ _ _ (xat_ok pr_X7_init.1 pr_X7_init.2).1 (xat_ok pr_X7_init.1 pr_X7_init.2).2.1 (xat_ok pr_X7_init.1 pr_X7_init.2).2.2 h
  · exact (List.forall_mem_cons.mpr ⟨(xent_objInit X hT (xg 214 (by decide +kernel) (by decide +kernel)) (xg 159 (by decide +kernel) (by decide +kernel)) (xg 160 (by decide +kernel) (by decide +kernel)) rfl), (List.forall_mem_cons.mpr ⟨(xent_met X (ci := 8) hT cd_X8_init lk_X7_20 rfl (by decide) rfl (by decide +kernel) (fun _ => rfl) (hw_X8_init l D cA sA fu 1) (fun _ => ⟨by decide, fun z => absurd z (by decide)⟩) (by constructor <;> omega) (by decide)), (fun _ h => nomatch h)⟩)⟩)
  · exact (fun _ h => nomatch h)

theorem ok_X7_init (l : Launch) (D : va_G) (cA : Nat → ClassId) (sA : Nat → Nat) (fu : Nat) (s : Nat) (M : xM) {rr : xM} (h : F_X7_init fu s M = some rr) : xMet l D cA sA yX7_init cX7_init 1 none xG (1 + 1) 7 1055 [.inr (.inr (7, some s))] M none rr :=
  xmet_of (by decide +kernel) (Nat.le_of_ble_eq_true rfl) (fun p e s1 m ag below meth c0 A0 ad0 Z X hn hE => wx_X7_init X hn ⟨Nat.le_refl _, Nat.le_refl _⟩ hE fu s M h)
theorem hw_X7_init (l : Launch) (D : va_G) (cA : Nat → ClassId) (sA : Nat → Nat) (fu : Nat) {ρ : Type} {r0 : ρ} (kd1 : Nat) : ∀ (as : List xV) (M : xM) (k : Option xV → xM → Option ρ), w_X7_init fu as M k = some r0 → ∃ v M', xMet l D cA sA yX7_init cX7_init 1 none xG (1 + 1) 7 1055 as M v M' ∧ k v M' = some r0 ∧ (kd1 ≠ 2 → ∃ a as', as = .inr (.inr (7, some a)) :: as') := by
  intro as M k h
  unfold w_X7_init at h
  replace h := pR_some h
  obtain ⟨o, as1, rfl, h⟩ := h
  replace h := bd_some h
  obtain ⟨s, rfl, h⟩ := h
  replace h := xe_some h
  obtain ⟨rfl, h⟩ := h
  obtain ⟨p1, hp, h⟩ := Option.bind_eq_some_iff.mp h
  exact ⟨_, _, ok_X7_init l D cA sA fu s M hp, h, fun _ => ⟨_, _, rfl⟩⟩
theorem cd_X9_init : Cond.code yX9_init cX9_init 1 none ∈ xG := (xg 283 (by decide +kernel) (by decide +kernel))
theorem pr_X9_init : (∀ e ∈ pX9_init, xrow cX9_init 1 kdX9 flX9 0 true RX9 e) ∧ xnext pX9_init = true := xrows (by decide +kernel)
set_option maxRecDepth 100000 in
theorem wx_X9_init (X : xCtx p R S0 m ag c0 D cA A0 sA 1 cX9_init RX9 (.code yX9_init cX9_init 1 none :: xG) 4 96) (hi : meth.name = yX9_init.name) (hroom : 0 + 2 ≤ R.frames ∧ 60 * (0 + 2) ≤ R.locals) {rr : xM} (hE : xEnd l D cA sA cX9_init 1 none R 4 96 none rr p e S0 m ag below meth c0 A0 M0 ad0 Z) (fu : Nat) (s : Nat) (M : xM) (h : F_X9_init fu s M = some rr) : xWx p l e R S0 m ag below meth c0 D cA A0 sA M0 ad0 1 Z 4 96 0 4 96 [(0, .inr (.inr (9, some s)))] [] M := by
  rw [← q_X9_init fu s M] at h
  have hT : ∀ w ∈ xG, w ∈ (Cond.code yX9_init cX9_init 1 none :: xG) := fun w hw => List.mem_cons_of_mem _ hw
  refine xrun_sound (nst := 0) (isInit := true) (kd := kdX9) X (xcls_mono hT xclsG) (xpool_mono hT plX9) (fun _ => hi) (fun idx v hf => xkoE_mono hT (koX9_ok _ (xfind_mem hf))) (xents (ca := _) ?_) (endV hE).1 (endV hE).2 (xcuts (cu := _) ?_) pr_X9_init.1 pr_X9_init.2 _ _ _ _ _ _ _ _ (xat_ok pr_X9_init.1 pr_X9_init.2).1 (xat_ok pr_X9_init.1 pr_X9_init.2).2.1 (xat_ok pr_X9_init.1 pr_X9_init.2).2.2 h
  · exact (List.forall_mem_cons.mpr ⟨(xent_objInit X hT (xg 284 (by decide +kernel) (by decide +kernel)) (xg 159 (by decide +kernel) (by decide +kernel)) (xg 160 (by decide +kernel) (by decide +kernel)) rfl), (fun _ h => nomatch h)⟩)
  · exact (fun _ h => nomatch h)

theorem ok_X9_init (l : Launch) (D : va_G) (cA : Nat → ClassId) (sA : Nat → Nat) (fu : Nat) (s : Nat) (M : xM) {rr : xM} (h : F_X9_init fu s M = some rr) : xMet l D cA sA yX9_init cX9_init 1 none xG (0 + 1) 4 96 [.inr (.inr (9, some s))] M none rr :=
  xmet_of (by decide +kernel) (Nat.le_of_ble_eq_true rfl) (fun p e s1 m ag below meth c0 A0 ad0 Z X hn hE => wx_X9_init X hn ⟨Nat.le_refl _, Nat.le_refl _⟩ hE fu s M h)
theorem hw_X9_init (l : Launch) (D : va_G) (cA : Nat → ClassId) (sA : Nat → Nat) (fu : Nat) {ρ : Type} {r0 : ρ} (kd1 : Nat) : ∀ (as : List xV) (M : xM) (k : Option xV → xM → Option ρ), w_X9_init fu as M k = some r0 → ∃ v M', xMet l D cA sA yX9_init cX9_init 1 none xG (0 + 1) 4 96 as M v M' ∧ k v M' = some r0 ∧ (kd1 ≠ 2 → ∃ a as', as = .inr (.inr (9, some a)) :: as') := by
  intro as M k h
  unfold w_X9_init at h
  replace h := pR_some h
  obtain ⟨o, as1, rfl, h⟩ := h
  replace h := bd_some h
  obtain ⟨s, rfl, h⟩ := h
  replace h := xe_some h
  obtain ⟨rfl, h⟩ := h
  obtain ⟨p1, hp, h⟩ := Option.bind_eq_some_iff.mp h
  exact ⟨_, _, ok_X9_init l D cA sA fu s M hp, h, fun _ => ⟨_, _, rfl⟩⟩
theorem cd_X4_init : Cond.code yX4_init cX4_init 1 none ∈ xG := (xg 311 (by decide +kernel) (by decide +kernel))
theorem pr_X4_init : (∀ e ∈ pX4_init, xrow cX4_init 1 kdX4 flX4 0 true RX4 e) ∧ xnext pX4_init = true := xrows (by decide +kernel)
set_option maxRecDepth 100000 in
theorem wx_X4_init (X : xCtx p R S0 m ag c0 D cA A0 sA 1 cX4_init RX4 (.code yX4_init cX4_init 1 none :: xG) 4 65) (hi : meth.name = yX4_init.name) (hroom : 0 + 2 ≤ R.frames ∧ 60 * (0 + 2) ≤ R.locals) {rr : xM} (hE : xEnd l D cA sA cX4_init 1 none R 4 65 none rr p e S0 m ag below meth c0 A0 M0 ad0 Z) (fu : Nat) (s : Nat) (M : xM) (h : F_X4_init fu s M = some rr) : xWx p l e R S0 m ag below meth c0 D cA A0 sA M0 ad0 1 Z 4 65 0 4 65 [(0, .inr (.inr (4, some s)))] [] M := by
  rw [← q_X4_init fu s M] at h
  have hT : ∀ w ∈ xG, w ∈ (Cond.code yX4_init cX4_init 1 none :: xG) := fun w hw => List.mem_cons_of_mem _ hw
  refine xrun_sound (nst := 0) (isInit := true) (kd := kdX4) X (xcls_mono hT xclsG) (xpool_mono hT plX4) (fun _ => hi) (fun idx v hf => xkoE_mono hT (koX4_ok _ (xfind_mem hf))) (xents (ca := _) ?_) (endV hE).1 (endV hE).2 (xcuts (cu := _) ?_) pr_X4_init.1 pr_X4_init.2 _ _ _ _ _ _ _ _ (xat_ok pr_X4_init.1 pr_X4_init.2).1 (xat_ok pr_X4_init.1 pr_X4_init.2).2.1 (xat_ok pr_X4_init.1 pr_X4_init.2).2.2 h
  · exact (List.forall_mem_cons.mpr ⟨(xent_objInit X hT (xg 312 (by decide +kernel) (by decide +kernel)) (xg 159 (by decide +kernel) (by decide +kernel)) (xg 160 (by decide +kernel) (by decide +kernel)) rfl), (fun _ h => nomatch h)⟩)
  · exact (fun _ h => nomatch h)

theorem ok_X4_init (l : Launch) (D : va_G) (cA : Nat → ClassId) (sA : Nat → Nat) (fu : Nat) (s : Nat) (M : xM) {rr : xM} (h : F_X4_init fu s M = some rr) : xMet l D cA sA yX4_init cX4_init 1 none xG (0 + 1) 4 65 [.inr (.inr (4, some s))] M none rr :=
  xmet_of (by decide +kernel) (Nat.le_of_ble_eq_true rfl) (fun p e s1 m ag below meth c0 A0 ad0 Z X hn hE => wx_X4_init X hn ⟨Nat.le_refl _, Nat.le_refl _⟩ hE fu s M h)
theorem hw_X4_init (l : Launch) (D : va_G) (cA : Nat → ClassId) (sA : Nat → Nat) (fu : Nat) {ρ : Type} {r0 : ρ} (kd1 : Nat) : ∀ (as : List xV) (M : xM) (k : Option xV → xM → Option ρ), w_X4_init fu as M k = some r0 → ∃ v M', xMet l D cA sA yX4_init cX4_init 1 none xG (0 + 1) 4 65 as M v M' ∧ k v M' = some r0 ∧ (kd1 ≠ 2 → ∃ a as', as = .inr (.inr (4, some a)) :: as') := by
  intro as M k h
  unfold w_X4_init at h
  replace h := pR_some h
  obtain ⟨o, as1, rfl, h⟩ := h
  replace h := bd_some h
  obtain ⟨s, rfl, h⟩ := h
  replace h := xe_some h
  obtain ⟨rfl, h⟩ := h
  obtain ⟨p1, hp, h⟩ := Option.bind_eq_some_iff.mp h
  exact ⟨_, _, ok_X4_init l D cA sA fu s M hp, h, fun _ => ⟨_, _, rfl⟩⟩
theorem lk_X2_11 : xLink xG RX2 11 1 yX0_init 0 := ⟨Or.inr ⟨"FlashNodes", by decide +kernel⟩, (xg 338 (by decide +kernel) (by decide +kernel)), (xg 135 (by decide +kernel) (by decide +kernel)), rfl⟩
theorem cd_X2_init : Cond.code yX2_init cX2_init 4 none ∈ xG := (xg 333 (by decide +kernel) (by decide +kernel))
theorem pr_X2_init : (∀ e ∈ pX2_init, xrow cX2_init 4 kdX2 flX2 0 true RX2 e) ∧ xnext pX2_init = true := xrows (by decide +kernel)
set_option maxRecDepth 100000 in
theorem wx_X2_init (X : xCtx p R S0 m ag c0 D cA A0 sA 4 cX2_init RX2 (.code yX2_init cX2_init 4 none :: xG) 15 568) (hi : meth.name = yX2_init.name) (hroom : 7 + 2 ≤ R.frames ∧ 60 * (7 + 2) ≤ R.locals) {rr : xM} (hE : xEnd l D cA sA cX2_init 4 none R 15 568 none rr p e S0 m ag below meth c0 A0 M0 ad0 Z) (fu : Nat) (s : Nat) (x1 : Option Nat) (x2 : Option Nat) (x3 : Option Nat) (M : xM) (h : F_X2_init fu s x1 x2 x3 M = some rr) : xWx p l e R S0 m ag below meth c0 D cA A0 sA M0 ad0 4 Z 15 568 0 15 568 [(0, .inr (.inr (2, some s))), (1, .inr (.inr (7, x1))), (2, .inr (.inr (4, x2))), (3, .inr (.inr (3, x3)))] [] M := by
  rw [← q_X2_init fu s x1 x2 x3 M] at h
  have hT : ∀ w ∈ xG, w ∈ (Cond.code yX2_init cX2_init 4 none :: xG) := fun w hw => List.mem_cons_of_mem _ hw
  refine xrun_sound (nst := 0) (isInit := true) (kd := kdX2) X (xcls_mono hT xclsG) (xpool_mono hT plX2) (fun _ => hi) (fun idx v hf => xkoE_mono hT (koX2_ok _ (xfind_mem hf))) (xents (ca := _) ?_) (endV hE).1 (endV hE).2 (xcuts (cu := _) ?_) pr_X2_init.1 pr_X2_init.2 _ _ _ _ _ _ _ _ (xat_ok pr_X2_init.1 pr_X2_init.2).1 (xat_ok pr_X2_init.1 pr_X2_init.2).2.1 (xat_ok pr_X2_init.1 pr_X2_init.2).2.2 h
  · exact (List.forall_mem_cons.mpr ⟨(xent_objInit X hT (xg 334 (by decide +kernel) (by decide +kernel)) (xg 159 (by decide +kernel) (by decide +kernel)) (xg 160 (by decide +kernel) (by decide +kernel)) rfl), (List.forall_mem_cons.mpr ⟨(xent_met X (ci := 0) hT cd_X0_init lk_X2_11 rfl (by decide) rfl (by decide +kernel) (fun _ => rfl) (hw_X0_init l D cA sA fu 1) (fun _ => ⟨by decide, fun z => absurd z (by decide)⟩) (by constructor <;> omega) (by decide)), (List.forall_mem_cons.mpr ⟨(xent_met X (ci := 0) hT cd_X0_start lk_X2_51 rfl (by decide) rfl (by decide +kernel) (fun z => absurd z (by decide)) (hw_X0_start l D cA sA fu 0) (fun _ => ⟨by decide, fun _ => ⟨TX0, 16, rfl⟩⟩) (by constructor <;> omega) (by decide)), (fun _ h => nomatch h)⟩)⟩)⟩)
  · exact (fun _ h => nomatch h)

theorem ok_X2_init (l : Launch) (D : va_G) (cA : Nat → ClassId) (sA : Nat → Nat) (fu : Nat) (s : Nat) (x1 : Option Nat) (x2 : Option Nat) (x3 : Option Nat) (M : xM) {rr : xM} (h : F_X2_init fu s x1 x2 x3 M = some rr) : xMet l D cA sA yX2_init cX2_init 4 none xG (7 + 1) 15 568 [.inr (.inr (2, some s)), .inr (.inr (7, x1)), .inr (.inr (4, x2)), .inr (.inr (3, x3))] M none rr :=
  xmet_of (by decide +kernel) (Nat.le_of_ble_eq_true rfl) (fun p e s1 m ag below meth c0 A0 ad0 Z X hn hE => wx_X2_init X hn ⟨Nat.le_refl _, Nat.le_refl _⟩ hE fu s x1 x2 x3 M h)
theorem hw_X2_init (l : Launch) (D : va_G) (cA : Nat → ClassId) (sA : Nat → Nat) (fu : Nat) {ρ : Type} {r0 : ρ} (kd1 : Nat) : ∀ (as : List xV) (M : xM) (k : Option xV → xM → Option ρ), w_X2_init fu as M k = some r0 → ∃ v M', xMet l D cA sA yX2_init cX2_init 4 none xG (7 + 1) 15 568 as M v M' ∧ k v M' = some r0 ∧ (kd1 ≠ 2 → ∃ a as', as = .inr (.inr (2, some a)) :: as') := by
  intro as M k h
  unfold w_X2_init at h
  replace h := pR_some h
  obtain ⟨o, as1, rfl, h⟩ := h
  replace h := bd_some h
  obtain ⟨s, rfl, h⟩ := h
  replace h := pR_some h
  obtain ⟨x1, as1, rfl, h⟩ := h
  replace h := pR_some h
  obtain ⟨x2, as1, rfl, h⟩ := h
  replace h := pR_some h
  obtain ⟨x3, as1, rfl, h⟩ := h
  replace h := xe_some h
  obtain ⟨rfl, h⟩ := h
  obtain ⟨p1, hp, h⟩ := Option.bind_eq_some_iff.mp h
  exact ⟨_, _, ok_X2_init l D cA sA fu s x1 x2 x3 M hp, h, fun _ => ⟨_, _, rfl⟩⟩
theorem cd_X1_init : Cond.code yX1_init cX1_init 1 none ∈ xG := (xg 496 (by decide +kernel) (by decide +kernel))
theorem pr_X1_init : (∀ e ∈ pX1_init, xrow cX1_init 1 kdX1 flX1 0 true RX1 e) ∧ xnext pX1_init = true := xrows (by decide +kernel)
set_option maxRecDepth 100000 in
theorem wx_X1_init (X : xCtx p R S0 m ag c0 D cA A0 sA 1 cX1_init RX1 (.code yX1_init cX1_init 1 none :: xG) 3 24) (hi : meth.name = yX1_init.name) (hroom : 0 + 2 ≤ R.frames ∧ 60 * (0 + 2) ≤ R.locals) {rr : xM} (hE : xEnd l D cA sA cX1_init 1 none R 3 24 none rr p e S0 m ag below meth c0 A0 M0 ad0 Z) (fu : Nat) (s : Nat) (M : xM) (h : F_X1_init fu s M = some rr) : xWx p l e R S0 m ag below meth c0 D cA A0 sA M0 ad0 1 Z 3 24 0 3 24 [(0, .inr (.inr (1, some s)))] [] M := by
  rw [← q_X1_init fu s M] at h
  have hT : ∀ w ∈ xG, w ∈ (Cond.code yX1_init cX1_init 1 none :: xG) := fun w hw => List.mem_cons_of_mem _ hw
  refine xrun_sound (nst := 0) (isInit := true) (kd := kdX1) X (xcls_mono hT xclsG) (xpool_mono hT plX1) (fun _ => hi) (fun idx v hf => xkoE_mono hT (koX1_ok _ (xfind_mem hf))) (xents (ca := _) ?_) (endV hE).1 (endV hE).2 (xcuts (cu := _) ?_) pr_X1_init.1 pr_X1_init.2 _ _ _ _ _ _ _ _ (xat_ok pr_X1_init.1 pr_X1_init.2).1 (xat_ok pr_X1_init.1 pr_X1_init.2).2.1 (xat_ok pr_X1_init.1 pr_X1_init.2).2.2 h
  · exact (List.forall_mem_cons.mpr ⟨(xent_objInit X hT (xg 497 (by decide +kernel) (by decide +kernel)) (xg 159 (by decide +kernel) (by decide +kernel)) (xg 160 (by decide +kernel) (by decide +kernel)) rfl), (fun _ h => nomatch h)⟩)
  · exact (fun _ h => nomatch h)

theorem ok_X1_init (l : Launch) (D : va_G) (cA : Nat → ClassId) (sA : Nat → Nat) (fu : Nat) (s : Nat) (M : xM) {rr : xM} (h : F_X1_init fu s M = some rr) : xMet l D cA sA yX1_init cX1_init 1 none xG (0 + 1) 3 24 [.inr (.inr (1, some s))] M none rr :=
  xmet_of (by decide +kernel) (Nat.le_of_ble_eq_true rfl) (fun p e s1 m ag below meth c0 A0 ad0 Z X hn hE => wx_X1_init X hn ⟨Nat.le_refl _, Nat.le_refl _⟩ hE fu s M h)
theorem hw_X1_init (l : Launch) (D : va_G) (cA : Nat → ClassId) (sA : Nat → Nat) (fu : Nat) {ρ : Type} {r0 : ρ} (kd1 : Nat) : ∀ (as : List xV) (M : xM) (k : Option xV → xM → Option ρ), w_X1_init fu as M k = some r0 → ∃ v M', xMet l D cA sA yX1_init cX1_init 1 none xG (0 + 1) 3 24 as M v M' ∧ k v M' = some r0 ∧ (kd1 ≠ 2 → ∃ a as', as = .inr (.inr (1, some a)) :: as') := by
  intro as M k h
  unfold w_X1_init at h
  replace h := pR_some h
  obtain ⟨o, as1, rfl, h⟩ := h
  replace h := bd_some h
  obtain ⟨s, rfl, h⟩ := h
  replace h := xe_some h
  obtain ⟨rfl, h⟩ := h
  obtain ⟨p1, hp, h⟩ := Option.bind_eq_some_iff.mp h
  exact ⟨_, _, ok_X1_init l D cA sA fu s M hp, h, fun _ => ⟨_, _, rfl⟩⟩
theorem cd_X3_init : Cond.code yX3_init cX3_init 1 none ∈ xG := (xg 522 (by decide +kernel) (by decide +kernel))
theorem pr_X3_init : (∀ e ∈ pX3_init, xrow cX3_init 1 kdX3 flX3 0 true RX3 e) ∧ xnext pX3_init = true := xrows (by decide +kernel)
set_option maxRecDepth 100000 in
theorem wx_X3_init (X : xCtx p R S0 m ag c0 D cA A0 sA 1 cX3_init RX3 (.code yX3_init cX3_init 1 none :: xG) 4 6624) (hi : meth.name = yX3_init.name) (hroom : 0 + 2 ≤ R.frames ∧ 60 * (0 + 2) ≤ R.locals) {rr : xM} (hE : xEnd l D cA sA cX3_init 1 none R 4 6624 none rr p e S0 m ag below meth c0 A0 M0 ad0 Z) (fu : Nat) (s : Nat) (M : xM) (h : F_X3_init fu s M = some rr) : xWx p l e R S0 m ag below meth c0 D cA A0 sA M0 ad0 1 Z 4 6624 0 4 6624 [(0, .inr (.inr (3, some s)))] [] M := by
  rw [← q_X3_init fu s M] at h
  have hT : ∀ w ∈ xG, w ∈ (Cond.code yX3_init cX3_init 1 none :: xG) := fun w hw => List.mem_cons_of_mem _ hw
  refine xrun_sound (nst := 0) (isInit := true) (kd := kdX3) X (xcls_mono hT xclsG) (xpool_mono hT plX3) (fun _ => hi) (fun idx v hf => xkoE_mono hT (koX3_ok _ (xfind_mem hf))) (xents (ca := _) ?_) (endV hE).1 (endV hE).2 (xcuts (cu := _) ?_) pr_X3_init.1 pr_X3_init.2 _ _ _ _ _ _ _ _ (xat_ok pr_X3_init.1 pr_X3_init.2).1 (xat_ok pr_X3_init.1 pr_X3_init.2).2.1 (xat_ok pr_X3_init.1 pr_X3_init.2).2.2 h
  · exact (List.forall_mem_cons.mpr ⟨(xent_objInit X hT (xg 523 (by decide +kernel) (by decide +kernel)) (xg 159 (by decide +kernel) (by decide +kernel)) (xg 160 (by decide +kernel) (by decide +kernel)) rfl), (fun _ h => nomatch h)⟩)
  · exact (fun _ h => nomatch h)

theorem ok_X3_init (l : Launch) (D : va_G) (cA : Nat → ClassId) (sA : Nat → Nat) (fu : Nat) (s : Nat) (M : xM) {rr : xM} (h : F_X3_init fu s M = some rr) : xMet l D cA sA yX3_init cX3_init 1 none xG (0 + 1) 4 6624 [.inr (.inr (3, some s))] M none rr :=
  xmet_of (by decide +kernel) (Nat.le_of_ble_eq_true rfl) (fun p e s1 m ag below meth c0 A0 ad0 Z X hn hE => wx_X3_init X hn ⟨Nat.le_refl _, Nat.le_refl _⟩ hE fu s M h)
theorem hw_X3_init (l : Launch) (D : va_G) (cA : Nat → ClassId) (sA : Nat → Nat) (fu : Nat) {ρ : Type} {r0 : ρ} (kd1 : Nat) : ∀ (as : List xV) (M : xM) (k : Option xV → xM → Option ρ), w_X3_init fu as M k = some r0 → ∃ v M', xMet l D cA sA yX3_init cX3_init 1 none xG (0 + 1) 4 6624 as M v M' ∧ k v M' = some r0 ∧ (kd1 ≠ 2 → ∃ a as', as = .inr (.inr (3, some a)) :: as') := by
  intro as M k h
  unfold w_X3_init at h
  replace h := pR_some h
  obtain ⟨o, as1, rfl, h⟩ := h
  replace h := bd_some h
  obtain ⟨s, rfl, h⟩ := h
  replace h := xe_some h
  obtain ⟨rfl, h⟩ := h
  obtain ⟨p1, hp, h⟩ := Option.bind_eq_some_iff.mp h
  exact ⟨_, _, ok_X3_init l D cA sA fu s M hp, h, fun _ => ⟨_, _, rfl⟩⟩
theorem lk_X5_21 : xLink xG RX5 21 1 yX3_init 0 := ⟨Or.inr ⟨"FlashNodes", by decide +kernel⟩, (xg 521 (by decide +kernel) (by decide +kernel)), (xg 139 (by decide +kernel) (by decide +kernel)), rfl⟩
theorem lk_X5_28 : xLink xG RX5 28 1 yX2_init 3 := ⟨Or.inl (xg 546 (by decide +kernel) (by decide +kernel)), (xg 332 (by decide +kernel) (by decide +kernel)), (xg 134 (by decide +kernel) (by decide +kernel)), rfl⟩
theorem cd_X5_init : Cond.code yX5_init cX5_init 3 none ∈ xG := (xg 516 (by decide +kernel) (by decide +kernel))
theorem pr_X5_init : (∀ e ∈ pX5_init, xrow cX5_init 3 kdX5 flX5 0 true RX5 e) ∧ xnext pX5_init = true := xrows (by decide +kernel)
set_option maxRecDepth 100000 in
theorem wx_X5_init (X : xCtx p R S0 m ag c0 D cA A0 sA 3 cX5_init RX5 (.code yX5_init cX5_init 3 none :: xG) 22 7234) (hi : meth.name = yX5_init.name) (hroom : 8 + 2 ≤ R.frames ∧ 60 * (8 + 2) ≤ R.locals) {rr : xM} (hE : xEnd l D cA sA cX5_init 3 none R 22 7234 none rr p e S0 m ag below meth c0 A0 M0 ad0 Z) (fu : Nat) (s : Nat) (x1 : Option Nat) (x2 : Option Nat) (M : xM) (h : F_X5_init fu s x1 x2 M = some rr) : xWx p l e R S0 m ag below meth c0 D cA A0 sA M0 ad0 3 Z 22 7234 0 22 7234 [(0, .inr (.inr (5, some s))), (1, .inr (.inr (7, x1))), (2, .inr (.inr (4, x2)))] [] M := by
  rw [← q_X5_init fu s x1 x2 M] at h
  have hT : ∀ w ∈ xG, w ∈ (Cond.code yX5_init cX5_init 3 none :: xG) := fun w hw => List.mem_cons_of_mem _ hw
  refine xrun_sound (nst := 0) (isInit := true) (kd := kdX5) X (xcls_mono hT xclsG) (xpool_mono hT plX5) (fun _ => hi) (fun idx v hf => xkoE_mono hT (koX5_ok _ (xfind_mem hf))) (xents (ca := _) ?_) (endV hE).1 (endV hE).2 (xcuts (cu := _) ?_) pr_X5_init.1 pr_X5_init.2 _ _ _ _ _ _ _ _ (xat_ok pr_X5_init.1 pr_X5_init.2).1 (xat_ok pr_X5_init.1 pr_X5_init.2).2.1 (xat_ok pr_X5_init.1 pr_X5_init.2).2.2 h
  · exact (List.forall_mem_cons.mpr ⟨(xent_objInit X hT (xg 517 (by decide +kernel) (by decide +kernel)) (xg 159 (by decide +kernel) (by decide +kernel)) (xg 160 (by decide +kernel) (by decide +kernel)) rfl), (List.forall_mem_cons.mpr ⟨(xent_met X (ci := 3) hT cd_X3_init lk_X5_21 rfl (by decide) rfl (by decide +kernel) (fun _ => rfl) (hw_X3_init l D cA sA fu 1) (fun _ => ⟨by decide, fun z => absurd z (by decide)⟩) (by constructor <;> omega) (by decide)), (List.forall_mem_cons.mpr ⟨(xent_met X (ci := 2) hT cd_X2_init lk_X5_28 rfl (by decide) rfl (by decide +kernel) (fun _ => rfl) (hw_X2_init l D cA sA fu 1) (fun _ => ⟨by decide, fun z => absurd z (by decide)⟩) (by constructor <;> omega) (by decide)), (fun _ h => nomatch h)⟩)⟩)⟩)
  · exact (fun _ h => nomatch h)

theorem ok_X5_init (l : Launch) (D : va_G) (cA : Nat → ClassId) (sA : Nat → Nat) (fu : Nat) (s : Nat) (x1 : Option Nat) (x2 : Option Nat) (M : xM) {rr : xM} (h : F_X5_init fu s x1 x2 M = some rr) : xMet l D cA sA yX5_init cX5_init 3 none xG (8 + 1) 22 7234 [.inr (.inr (5, some s)), .inr (.inr (7, x1)), .inr (.inr (4, x2))] M none rr :=
  xmet_of (by decide +kernel) (Nat.le_of_ble_eq_true rfl) (fun p e s1 m ag below meth c0 A0 ad0 Z X hn hE => wx_X5_init X hn ⟨Nat.le_refl _, Nat.le_refl _⟩ hE fu s x1 x2 M h)
theorem hw_X5_init (l : Launch) (D : va_G) (cA : Nat → ClassId) (sA : Nat → Nat) (fu : Nat) {ρ : Type} {r0 : ρ} (kd1 : Nat) : ∀ (as : List xV) (M : xM) (k : Option xV → xM → Option ρ), w_X5_init fu as M k = some r0 → ∃ v M', xMet l D cA sA yX5_init cX5_init 3 none xG (8 + 1) 22 7234 as M v M' ∧ k v M' = some r0 ∧ (kd1 ≠ 2 → ∃ a as', as = .inr (.inr (5, some a)) :: as') := by
  intro as M k h
  unfold w_X5_init at h
  replace h := pR_some h
  obtain ⟨o, as1, rfl, h⟩ := h
  replace h := bd_some h
  obtain ⟨s, rfl, h⟩ := h
  replace h := pR_some h
  obtain ⟨x1, as1, rfl, h⟩ := h
  replace h := pR_some h
  obtain ⟨x2, as1, rfl, h⟩ := h
  replace h := xe_some h
  obtain ⟨rfl, h⟩ := h
  obtain ⟨p1, hp, h⟩ := Option.bind_eq_some_iff.mp h
  exact ⟨_, _, ok_X5_init l D cA sA fu s x1 x2 M hp, h, fun _ => ⟨_, _, rfl⟩⟩
theorem cd_X6_init : Cond.code yX6_init cX6_init 1 none ∈ xG := (xg 575 (by decide +kernel) (by decide +kernel))
theorem pr_X6_init : (∀ e ∈ pX6_init, xrow cX6_init 1 kdX6 flX6 23 true RX6 e) ∧ xnext pX6_init = true := xrows (by decide +kernel)
set_option maxRecDepth 100000 in
theorem wx_X6_init (X : xCtx p R S0 m ag c0 D cA A0 sA 1 cX6_init RX6 (.code yX6_init cX6_init 1 none :: xG) 0 0) (hi : meth.name = yX6_init.name) (hroom : 0 + 2 ≤ R.frames ∧ 60 * (0 + 2) ≤ R.locals) {rr : xM} (hE : xEnd l D cA sA cX6_init 1 none R 0 0 none rr p e S0 m ag below meth c0 A0 M0 ad0 Z) (fu : Nat) (s : Nat) (M : xM) (h : F_X6_init fu s M = some rr) : xWx p l e R S0 m ag below meth c0 D cA A0 sA M0 ad0 1 Z 0 0 0 0 0 [(0, .inr (.inr (6, some s)))] [] M := by
  rw [← q_X6_init fu s M] at h
  have hT : ∀ w ∈ xG, w ∈ (Cond.code yX6_init cX6_init 1 none :: xG) := fun w hw => List.mem_cons_of_mem _ hw
  refine xrun_sound (nst := 23) (isInit := true) (kd := kdX6) X (xcls_mono hT xclsG) (xpool_mono hT plX6) (fun _ => hi) (fun idx v hf => xkoE_mono hT (koX6_ok _ (xfind_mem hf))) (xents (ca := _) ?_) (endV hE).1 (endV hE).2 (xcuts (cu := _) ?_) pr_X6_init.1 pr_X6_init.2 _ _ _ _ _ _ _ _ (xat_ok pr_X6_init.1 pr_X6_init.2).1 (xat_ok pr_X6_init.1 pr_X6_init.2).2.1 (xat_ok pr_X6_init.1 pr_X6_init.2).2.2 h
  · exact (List.forall_mem_cons.mpr ⟨(xent_objInit X hT (xg 576 (by decide +kernel) (by decide +kernel)) (xg 159 (by decide +kernel) (by decide +kernel)) (xg 160 (by decide +kernel) (by decide +kernel)) rfl), (fun _ h => nomatch h)⟩)
  · exact (fun _ h => nomatch h)

theorem ok_X6_init (l : Launch) (D : va_G) (cA : Nat → ClassId) (sA : Nat → Nat) (fu : Nat) (s : Nat) (M : xM) {rr : xM} (h : F_X6_init fu s M = some rr) : xMet l D cA sA yX6_init cX6_init 1 none xG (0 + 1) 0 0 [.inr (.inr (6, some s))] M none rr :=
  xmet_of (by decide +kernel) (Nat.le_of_ble_eq_true rfl) (fun p e s1 m ag below meth c0 A0 ad0 Z X hn hE => wx_X6_init X hn ⟨Nat.le_refl _, Nat.le_refl _⟩ hE fu s M h)
theorem hw_X6_init (l : Launch) (D : va_G) (cA : Nat → ClassId) (sA : Nat → Nat) (fu : Nat) {ρ : Type} {r0 : ρ} (kd1 : Nat) : ∀ (as : List xV) (M : xM) (k : Option xV → xM → Option ρ), w_X6_init fu as M k = some r0 → ∃ v M', xMet l D cA sA yX6_init cX6_init 1 none xG (0 + 1) 0 0 as M v M' ∧ k v M' = some r0 ∧ (kd1 ≠ 2 → ∃ a as', as = .inr (.inr (6, some a)) :: as') := by
  intro as M k h
  unfold w_X6_init at h
  replace h := pR_some h
  obtain ⟨o, as1, rfl, h⟩ := h
  replace h := bd_some h
  obtain ⟨s, rfl, h⟩ := h
  replace h := xe_some h
  obtain ⟨rfl, h⟩ := h
  obtain ⟨p1, hp, h⟩ := Option.bind_eq_some_iff.mp h
  exact ⟨_, _, ok_X6_init l D cA sA fu s M hp, h, fun _ => ⟨_, _, rfl⟩⟩
theorem lk_X11_9 : xLink xG RX11 9 1 yX10_init 0 := ⟨Or.inr ⟨"FlashNodes", by decide +kernel⟩, (xg 164 (by decide +kernel) (by decide +kernel)), (xg 129 (by decide +kernel) (by decide +kernel)), rfl⟩
theorem lk_X11_18 : xLink xG RX11 18 1 yX7_init 0 := ⟨Or.inr ⟨"FlashNodes", by decide +kernel⟩, (xg 212 (by decide +kernel) (by decide +kernel)), (xg 130 (by decide +kernel) (by decide +kernel)), rfl⟩
theorem lk_X11_28 : xLink xG RX11 28 1 yX9_init 0 := ⟨Or.inr ⟨"FlashNodes", by decide +kernel⟩, (xg 282 (by decide +kernel) (by decide +kernel)), (xg 132 (by decide +kernel) (by decide +kernel)), rfl⟩
theorem lk_X11_38 : xLink xG RX11 38 1 yX4_init 0 := ⟨Or.inr ⟨"FlashNodes", by decide +kernel⟩, (xg 310 (by decide +kernel) (by decide +kernel)), (xg 133 (by decide +kernel) (by decide +kernel)), rfl⟩
theorem lk_X11_45 : xLink xG RX11 45 1 yX2_init 3 := ⟨Or.inl (xg 331 (by decide +kernel) (by decide +kernel)), (xg 332 (by decide +kernel) (by decide +kernel)), (xg 134 (by decide +kernel) (by decide +kernel)), rfl⟩
theorem lk_X11_57 : xLink xG RX11 57 1 yX1_init 0 := ⟨Or.inr ⟨"FlashNodes", by decide +kernel⟩, (xg 495 (by decide +kernel) (by decide +kernel)), (xg 137 (by decide +kernel) (by decide +kernel)), rfl⟩
theorem lk_X11_64 : xLink xG RX11 64 1 yX5_init 2 := ⟨Or.inl (xg 514 (by decide +kernel) (by decide +kernel)), (xg 515 (by decide +kernel) (by decide +kernel)), (xg 138 (by decide +kernel) (by decide +kernel)), rfl⟩
theorem lk_X11_73 : xLink xG RX11 73 1 yX6_init 0 := ⟨Or.inr ⟨"FlashNodes", by decide +kernel⟩, (xg 574 (by decide +kernel) (by decide +kernel)), (xg 140 (by decide +kernel) (by decide +kernel)), rfl⟩
theorem cd_X11_init : Cond.code yX11_init cX11_init 1 none ∈ xG := (xg 157 (by decide +kernel) (by decide +kernel))
theorem pr_X11_init : (∀ e ∈ pX11_init, xrow cX11_init 1 kdX11 flX11 0 true RX11 e) ∧ xnext pX11_init = true := xrows (by decide +kernel)
set_option maxRecDepth 100000 in
theorem wx_X11_init (X : xCtx p R S0 m ag c0 D cA A0 sA 1 cX11_init RX11 (.code yX11_init cX11_init 1 none :: xG) 136 13077) (hi : meth.name = yX11_init.name) (hroom : 9 + 2 ≤ R.frames ∧ 60 * (9 + 2) ≤ R.locals) {rr : xM} (hE : xEnd l D cA sA cX11_init 1 none R 136 13077 none rr p e S0 m ag below meth c0 A0 M0 ad0 Z) (fu : Nat) (s : Nat) (M : xM) (h : F_X11_init fu s M = some rr) : xWx p l e R S0 m ag below meth c0 D cA A0 sA M0 ad0 1 Z 136 13077 0 136 13077 [(0, .inr (.inr (11, some s)))] [] M := by
  rw [← q_X11_init fu s M] at h
  have hT : ∀ w ∈ xG, w ∈ (Cond.code yX11_init cX11_init 1 none :: xG) := fun w hw => List.mem_cons_of_mem _ hw
  refine xrun_sound (nst := 0) (isInit := true) (kd := kdX11) X (xcls_mono hT xclsG) (xpool_mono hT plX11) (fun _ => hi) (fun idx v hf => xkoE_mono hT (koX11_ok _ (xfind_mem hf))) (xents (ca := _) ?_) (endV hE).1 (endV hE).2 (xcuts (cu := _) ?_) pr_X11_init.1 pr_X11_init.2 _ _ _ _ _ _ _ _ (xat_ok pr_X11_init.1 pr_X11_init.2).1 (xat_ok pr_X11_init.1 pr_X11_init.2).2.1 (xat_ok pr_X11_init.1 pr_X11_init.2).2.2 h
  · exact (List.forall_mem_cons.mpr ⟨(xent_objInit X hT (xg 158 (by decide +kernel) (by decide +kernel)) (xg 159 (by decide +kernel) (by decide +kernel)) (xg 160 (by decide +kernel) (by decide +kernel)) rfl), (List.forall_mem_cons.mpr ⟨(xent_met X (ci := 10) hT cd_X10_init lk_X11_9 rfl (by decide) rfl (by decide +kernel) (fun _ => rfl) (hw_X10_init l D cA sA fu 1) (fun _ => ⟨by decide, fun z => absurd z (by decide)⟩) (by constructor <;> omega) (by decide)), (List.forall_mem_cons.mpr ⟨(xent_met X (ci := 7) hT cd_X7_init lk_X11_18 rfl (by decide) rfl (by decide +kernel) (fun _ => rfl) (hw_X7_init l D cA sA fu 1) (fun _ => ⟨by decide, fun z => absurd z (by decide)⟩) (by constructor <;> omega) (by decide)), (List.forall_mem_cons.mpr ⟨(xent_met X (ci := 9) hT cd_X9_init lk_X11_28 rfl (by decide) rfl (by decide +kernel) (fun _ => rfl) (hw_X9_init l D cA sA fu 1) (fun _ => ⟨by decide, fun z => absurd z (by decide)⟩) (by constructor <;> omega) (by decide)), (List.forall_mem_cons.mpr ⟨(xent_met X (ci := 4) hT cd_X4_init lk_X11_38 rfl (by decide) rfl (by decide +kernel) (fun _ => rfl) (hw_X4_init l D cA sA fu 1) (fun _ => ⟨by decide, fun z => absurd z (by decide)⟩) (by constructor <;> omega) (by decide)), (List.forall_mem_cons.mpr ⟨(xent_met X (ci := 2) hT cd_X2_init lk_X11_45 rfl (by decide) rfl (by decide +kernel) (fun _ => rfl) (hw_X2_init l D cA sA fu 1) (fun _ => ⟨by decide, fun z => absurd z (by decide)⟩) (by constructor <;> omega) (by decide)), (List.forall_mem_cons.mpr ⟨(xent_met X (ci := 1) hT cd_X1_init lk_X11_57 rfl (by decide) rfl (by decide +kernel) (fun _ => rfl) (hw_X1_init l D cA sA fu 1) (fun _ => ⟨by decide, fun z => absurd z (by decide)⟩) (by constructor <;> omega) (by decide)), (List.forall_mem_cons.mpr ⟨(xent_met X (ci := 5) hT cd_X5_init lk_X11_64 rfl (by decide) rfl (by decide +kernel) (fun _ => rfl) (hw_X5_init l D cA sA fu 1) (fun _ => ⟨by decide, fun z => absurd z (by decide)⟩) (by constructor <;> omega) (by decide)), (List.forall_mem_cons.mpr ⟨(xent_met X (ci := 6) hT cd_X6_init lk_X11_73 rfl (by decide) rfl (by decide +kernel) (fun _ => rfl) (hw_X6_init l D cA sA fu 1) (fun _ => ⟨by decide, fun z => absurd z (by decide)⟩) (by constructor <;> omega) (by decide)), (fun _ h => nomatch h)⟩)⟩)⟩)⟩)⟩)⟩)⟩)⟩)⟩)
  · exact (fun _ h => nomatch h)

theorem ok_X11_init (l : Launch) (D : va_G) (cA : Nat → ClassId) (sA : Nat → Nat) (fu : Nat) (s : Nat) (M : xM) {rr : xM} (h : F_X11_init fu s M = some rr) : xMet l D cA sA yX11_init cX11_init 1 none xG (9 + 1) 136 13077 [.inr (.inr (11, some s))] M none rr :=
  xmet_of (by decide +kernel) (Nat.le_of_ble_eq_true rfl) (fun p e s1 m ag below meth c0 A0 ad0 Z X hn hE => wx_X11_init X hn ⟨Nat.le_refl _, Nat.le_refl _⟩ hE fu s M h)
theorem hw_X11_init (l : Launch) (D : va_G) (cA : Nat → ClassId) (sA : Nat → Nat) (fu : Nat) {ρ : Type} {r0 : ρ} (kd1 : Nat) : ∀ (as : List xV) (M : xM) (k : Option xV → xM → Option ρ), w_X11_init fu as M k = some r0 → ∃ v M', xMet l D cA sA yX11_init cX11_init 1 none xG (9 + 1) 136 13077 as M v M' ∧ k v M' = some r0 ∧ (kd1 ≠ 2 → ∃ a as', as = .inr (.inr (11, some a)) :: as') := by
  intro as M k h
  unfold w_X11_init at h
  replace h := pR_some h
  obtain ⟨o, as1, rfl, h⟩ := h
  replace h := bd_some h
  obtain ⟨s, rfl, h⟩ := h
  replace h := xe_some h
  obtain ⟨rfl, h⟩ := h
  obtain ⟨p1, hp, h⟩ := Option.bind_eq_some_iff.mp h
  exact ⟨_, _, ok_X11_init l D cA sA fu s M hp, h, fun _ => ⟨_, _, rfl⟩⟩
theorem cd_X5_tell : Cond.code yX5_tell cX5_tell 2 (some .int) ∈ xG := (xg 1210 (by decide +kernel) (by decide +kernel))
theorem pr_X5_tell : (∀ e ∈ pX5_tell, xrow cX5_tell 2 kdX5 flX5 0 false RX5 e) ∧ xnext pX5_tell = true := xrows (by decide +kernel)
set_option maxRecDepth 100000 in
theorem wx_X5_tell (X : xCtx p R S0 m ag c0 D cA A0 sA 2 cX5_tell RX5 (.code yX5_tell cX5_tell 2 (some .int) :: xG) 0 0) (hi : meth.name = yX5_tell.name) (hroom : 0 + 2 ≤ R.frames ∧ 60 * (0 + 2) ≤ R.locals) {rr : Int32 × xM} (hE : xEnd l D cA sA cX5_tell 2 (some .int) R 0 0 (some (.inl rr.1)) rr.2 p e S0 m ag below meth c0 A0 M0 ad0 Z) (fu : Nat) (s : Nat) (x1 : Int32) (M : xM) (h : F_X5_tell fu s x1 M = some rr) : xWx p l e R S0 m ag below meth c0 D cA A0 sA M0 ad0 2 Z 0 0 0 0 0 [(0, .inr (.inr (5, some s))), (1, .inl x1)] [] M := by
  rw [← q_X5_tell fu s x1 M] at h
  have hT : ∀ w ∈ xG, w ∈ (Cond.code yX5_tell cX5_tell 2 (some .int) :: xG) := fun w hw => List.mem_cons_of_mem _ hw
  refine xrun_sound (nst := 0) (isInit := false) (kd := kdX5) X (xcls_mono hT xclsG) (xpool_mono hT plX5) (fun z => by cases z) (fun idx v hf => xkoE_mono hT (koX5_ok _ (xfind_mem hf))) (xents (ca := _) ?_) (endI hE).1 (endI hE).2 (xcuts (cu := _) ?_) pr_X5_tell.1 pr_X5_tell.2 _ _ _ _ _ _ _ _ (xat_ok pr_X5_tell.1 pr_X5_tell.2).1 (xat_ok pr_X5_tell.1 pr_X5_tell.2).2.1 (xat_ok pr_X5_tell.1 pr_X5_tell.2).2.2 h
  · exact (fun _ h => nomatch h)
  · exact (fun _ h => nomatch h)

theorem ok_X5_tell (l : Launch) (D : va_G) (cA : Nat → ClassId) (sA : Nat → Nat) (fu : Nat) (s : Nat) (x1 : Int32) (M : xM) {rr : Int32 × xM} (h : F_X5_tell fu s x1 M = some rr) : xMet l D cA sA yX5_tell cX5_tell 2 (some .int) xG (0 + 1) 0 0 [.inr (.inr (5, some s)), .inl x1] M (some (.inl rr.1)) rr.2 :=
  xmet_of (by decide +kernel) (Nat.le_of_ble_eq_true rfl) (fun p e s1 m ag below meth c0 A0 ad0 Z X hn hE => wx_X5_tell X hn ⟨Nat.le_refl _, Nat.le_refl _⟩ hE fu s x1 M h)
theorem hw_X5_tell (l : Launch) (D : va_G) (cA : Nat → ClassId) (sA : Nat → Nat) (fu : Nat) {ρ : Type} {r0 : ρ} (kd1 : Nat) : ∀ (as : List xV) (M : xM) (k : Option xV → xM → Option ρ), w_X5_tell fu as M k = some r0 → ∃ v M', xMet l D cA sA yX5_tell cX5_tell 2 (some .int) xG (0 + 1) 0 0 as M v M' ∧ k v M' = some r0 ∧ (kd1 ≠ 2 → ∃ a as', as = .inr (.inr (5, some a)) :: as') := by
  intro as M k h
  unfold w_X5_tell at h
  replace h := pR_some h
  obtain ⟨o, as1, rfl, h⟩ := h
  replace h := bd_some h
  obtain ⟨s, rfl, h⟩ := h
  replace h := pI_some h
  obtain ⟨x1, as1, rfl, h⟩ := h
  replace h := xe_some h
  obtain ⟨rfl, h⟩ := h
  obtain ⟨p1, hp, h⟩ := Option.bind_eq_some_iff.mp h
  exact ⟨_, _, ok_X5_tell l D cA sA fu s x1 M hp, h, fun _ => ⟨_, _, rfl⟩⟩
theorem lk_X11_211 : xLink xG RX11 211 0 yX5_tell 1 := ⟨Or.inl (xg 1207 (by decide +kernel) (by decide +kernel)), (xg 1208 (by decide +kernel) (by decide +kernel)), (xg 1209 (by decide +kernel) (by decide +kernel)), (xg 138 (by decide +kernel) (by decide +kernel)), ⟨5, by decide, TX5, 7, rfl⟩⟩
theorem cd_X11_judged : Cond.code yX11_judged cX11_judged 2 (some .int) ∈ xG := (xg 1178 (by decide +kernel) (by decide +kernel))
theorem pr_X11_judged : (∀ e ∈ pX11_judged, xrow cX11_judged 2 kdX11 flX11 0 false RX11 e) ∧ xnext pX11_judged = true := xrows (by decide +kernel)
set_option maxRecDepth 100000 in
theorem wx_X11_judged (X : xCtx p R S0 m ag c0 D cA A0 sA 2 cX11_judged RX11 (.code yX11_judged cX11_judged 2 (some .int) :: xG) 0 0) (hi : meth.name = yX11_judged.name) (hroom : 12 + 2 ≤ R.frames ∧ 60 * (12 + 2) ≤ R.locals) {rr : Int32 × xM} (hE : xEnd l D cA sA cX11_judged 2 (some .int) R 0 0 (some (.inl rr.1)) rr.2 p e S0 m ag below meth c0 A0 M0 ad0 Z) (fu : Nat) (s : Nat) (x1 : Int32) (M : xM) (h : F_X11_judged fu s x1 M = some rr) : xWx p l e R S0 m ag below meth c0 D cA A0 sA M0 ad0 2 Z 0 0 0 0 0 [(0, .inr (.inr (11, some s))), (1, .inl x1)] [] M := by
  rw [← q_X11_judged fu s x1 M] at h
  have hT : ∀ w ∈ xG, w ∈ (Cond.code yX11_judged cX11_judged 2 (some .int) :: xG) := fun w hw => List.mem_cons_of_mem _ hw
  refine xrun_sound (nst := 0) (isInit := false) (kd := kdX11) X (xcls_mono hT xclsG) (xpool_mono hT plX11) (fun z => by cases z) (fun idx v hf => xkoE_mono hT (koX11_ok _ (xfind_mem hf))) (xents (ca := _) ?_) (endI hE).1 (endI hE).2 (xcuts (cu := _) ?_) pr_X11_judged.1 pr_X11_judged.2 _ _ _ _ _ _ _ _ (xat_ok pr_X11_judged.1 pr_X11_judged.2).1 (xat_ok pr_X11_judged.1 pr_X11_judged.2).2.1 (xat_ok pr_X11_judged.1 pr_X11_judged.2).2.2 h
  · exact (List.forall_mem_cons.mpr ⟨(xent_met X (ci := 5) hT cd_X5_run lk_X11_207 rfl (by decide) rfl (by decide +kernel) (fun z => absurd z (by decide)) (hw_X5_run l D cA sA fu 0) (fun _ => ⟨by decide, fun _ => ⟨TX5, 7, rfl⟩⟩) (by constructor <;> omega) (by decide)), (List.forall_mem_cons.mpr ⟨(xent_met X (ci := 5) hT cd_X5_tell lk_X11_211 rfl (by decide) rfl (by decide +kernel) (fun z => absurd z (by decide)) (hw_X5_tell l D cA sA fu 0) (fun _ => ⟨by decide, fun _ => ⟨TX5, 7, rfl⟩⟩) (by constructor <;> omega) (by decide)), (fun _ h => nomatch h)⟩)⟩)
  · exact (fun _ h => nomatch h)

theorem ok_X11_judged (l : Launch) (D : va_G) (cA : Nat → ClassId) (sA : Nat → Nat) (fu : Nat) (s : Nat) (x1 : Int32) (M : xM) {rr : Int32 × xM} (h : F_X11_judged fu s x1 M = some rr) : xMet l D cA sA yX11_judged cX11_judged 2 (some .int) xG (12 + 1) 0 0 [.inr (.inr (11, some s)), .inl x1] M (some (.inl rr.1)) rr.2 :=
  xmet_of (by decide +kernel) (Nat.le_of_ble_eq_true rfl) (fun p e s1 m ag below meth c0 A0 ad0 Z X hn hE => wx_X11_judged X hn ⟨Nat.le_refl _, Nat.le_refl _⟩ hE fu s x1 M h)
theorem hw_X11_judged (l : Launch) (D : va_G) (cA : Nat → ClassId) (sA : Nat → Nat) (fu : Nat) {ρ : Type} {r0 : ρ} (kd1 : Nat) : ∀ (as : List xV) (M : xM) (k : Option xV → xM → Option ρ), w_X11_judged fu as M k = some r0 → ∃ v M', xMet l D cA sA yX11_judged cX11_judged 2 (some .int) xG (12 + 1) 0 0 as M v M' ∧ k v M' = some r0 ∧ (kd1 ≠ 2 → ∃ a as', as = .inr (.inr (11, some a)) :: as') := by
  intro as M k h
  unfold w_X11_judged at h
  replace h := pR_some h
  obtain ⟨o, as1, rfl, h⟩ := h
  replace h := bd_some h
  obtain ⟨s, rfl, h⟩ := h
  replace h := pI_some h
  obtain ⟨x1, as1, rfl, h⟩ := h
  replace h := xe_some h
  obtain ⟨rfl, h⟩ := h
  obtain ⟨p1, hp, h⟩ := Option.bind_eq_some_iff.mp h
  exact ⟨_, _, ok_X11_judged l D cA sA fu s x1 M hp, h, fun _ => ⟨_, _, rfl⟩⟩
theorem cd_X2_liveBelow : Cond.code yX2_liveBelow cX2_liveBelow 4 (some .int) ∈ xG := (xg 1305 (by decide +kernel) (by decide +kernel))
theorem pr_X2_liveBelow : (∀ e ∈ pX2_liveBelow, xrow cX2_liveBelow 4 kdX2 flX2 0 false RX2 e) ∧ xnext pX2_liveBelow = true := xrows (by decide +kernel)
set_option maxRecDepth 100000 in
theorem wx_X2_liveBelow_4 (X : xCtx p R S0 m ag c0 D cA A0 sA 4 cX2_liveBelow RX2 (.code yX2_liveBelow cX2_liveBelow 4 (some .int) :: xG) 0 0) (hi : meth.name = yX2_liveBelow.name) (hroom : 0 + 2 ≤ R.frames ∧ 60 * (0 + 2) ≤ R.locals) {rr : Int32 × xM} (hE : xEnd l D cA sA cX2_liveBelow 4 (some .int) R 0 0 (some (.inl rr.1)) rr.2 p e S0 m ag below meth c0 A0 M0 ad0 Z) (fu : Nat) : ∀ (n : Nat) (s : Nat) (x1 : Int32) (x2 : Int32) (x3 : Int32) (M : xM), L_X2_liveBelow_4 fu n s x1 x2 x3 M = some rr → xWx p l e R S0 m ag below meth c0 D cA A0 sA M0 ad0 4 Z 0 0 4 0 0 [(0, .inr (.inr (2, some s))), (1, .inl x1), (2, .inl x2), (3, .inl x3)] [] M := by
  intro n
  induction n with
  | zero => intro s x1 x2 x3 M h; cases h
  | succ n ih =>
    intro s x1 x2 x3 M h
    rw [← q_X2_liveBelow_4 fu n s x1 x2 x3 M] at h
    have hT : ∀ w ∈ xG, w ∈ (Cond.code yX2_liveBelow cX2_liveBelow 4 (some .int) :: xG) := fun w hw => List.mem_cons_of_mem _ hw
    refine xrun_sound (nst := 0) (isInit := false) (kd := kdX2) X (xcls_mono hT xclsG) (xpool_mono hT plX2) (fun z => by cases z) (fun idx v hf => xkoE_mono hT (koX2_ok _ (xfind_mem hf))) (xents (ca := _) ?_) (endI hE).1 (endI hE).2 (xcuts (cu := _) ?_) pr_X2_liveBelow.1 pr_X2_liveBelow.2 _ _ _ _ _ _ _ _ (xat_ok pr_X2_liveBelow.1 pr_X2_liveBelow.2).1 (xat_ok pr_X2_liveBelow.1 pr_X2_liveBelow.2).2.1 (xat_ok pr_X2_liveBelow.1 pr_X2_liveBelow.2).2.2 h
    · exact (fun _ h => nomatch h)
    · refine (List.forall_mem_cons.mpr ⟨?_, (fun _ h => nomatch h)⟩)
      · intro bc bs ls st M h
        replace h := xz_some h
        obtain ⟨rfl, rfl, h⟩ := h
        replace h := lR_some h
        obtain ⟨o, e0, h⟩ := h
        replace h := bd_some h
        obtain ⟨s', rfl, h⟩ := h
        replace h := lI_some h
        obtain ⟨x1', e1, h⟩ := h
        replace h := lI_some h
        obtain ⟨x2', e2, h⟩ := h
        replace h := lI_some h
        obtain ⟨x3', e3, h⟩ := h
        replace h := xe_some h
        obtain ⟨rfl, h⟩ := h
        exact xWx_ls (ih s' x1' x2' x3' M h) (List.forall_mem_cons.mpr ⟨e0, (List.forall_mem_cons.mpr ⟨e1, (List.forall_mem_cons.mpr ⟨e2, (List.forall_mem_cons.mpr ⟨e3, (fun _ h => nomatch h)⟩)⟩)⟩)⟩)

set_option maxRecDepth 100000 in
theorem wx_X2_liveBelow (X : xCtx p R S0 m ag c0 D cA A0 sA 4 cX2_liveBelow RX2 (.code yX2_liveBelow cX2_liveBelow 4 (some .int) :: xG) 0 0) (hi : meth.name = yX2_liveBelow.name) (hroom : 0 + 2 ≤ R.frames ∧ 60 * (0 + 2) ≤ R.locals) {rr : Int32 × xM} (hE : xEnd l D cA sA cX2_liveBelow 4 (some .int) R 0 0 (some (.inl rr.1)) rr.2 p e S0 m ag below meth c0 A0 M0 ad0 Z) (fu : Nat) (s : Nat) (x1 : Int32) (M : xM) (h : F_X2_liveBelow fu s x1 M = some rr) : xWx p l e R S0 m ag below meth c0 D cA A0 sA M0 ad0 4 Z 0 0 0 0 0 [(0, .inr (.inr (2, some s))), (1, .inl x1)] [] M := by
  rw [← q_X2_liveBelow fu s x1 M] at h
  have hT : ∀ w ∈ xG, w ∈ (Cond.code yX2_liveBelow cX2_liveBelow 4 (some .int) :: xG) := fun w hw => List.mem_cons_of_mem _ hw
  refine xrun_sound (nst := 0) (isInit := false) (kd := kdX2) X (xcls_mono hT xclsG) (xpool_mono hT plX2) (fun z => by cases z) (fun idx v hf => xkoE_mono hT (koX2_ok _ (xfind_mem hf))) (xents (ca := _) ?_) (endI hE).1 (endI hE).2 (xcuts (cu := _) ?_) pr_X2_liveBelow.1 pr_X2_liveBelow.2 _ _ _ _ _ _ _ _ (xat_ok pr_X2_liveBelow.1 pr_X2_liveBelow.2).1 (xat_ok pr_X2_liveBelow.1 pr_X2_liveBelow.2).2.1 (xat_ok pr_X2_liveBelow.1 pr_X2_liveBelow.2).2.2 h
  · exact (fun _ h => nomatch h)
  · refine (List.forall_mem_cons.mpr ⟨?_, (fun _ h => nomatch h)⟩)
    · intro bc bs ls st M h
      replace h := xz_some h
      obtain ⟨rfl, rfl, h⟩ := h
      replace h := lR_some h
      obtain ⟨o, e0, h⟩ := h
      replace h := bd_some h
      obtain ⟨s', rfl, h⟩ := h
      replace h := lI_some h
      obtain ⟨x1', e1, h⟩ := h
      replace h := lI_some h
      obtain ⟨x2', e2, h⟩ := h
      replace h := lI_some h
      obtain ⟨x3', e3, h⟩ := h
      replace h := xe_some h
      obtain ⟨rfl, h⟩ := h
      exact xWx_ls (wx_X2_liveBelow_4 X hi hroom hE fu fu s' x1' x2' x3' M h) (List.forall_mem_cons.mpr ⟨e0, (List.forall_mem_cons.mpr ⟨e1, (List.forall_mem_cons.mpr ⟨e2, (List.forall_mem_cons.mpr ⟨e3, (fun _ h => nomatch h)⟩)⟩)⟩)⟩)

theorem ok_X2_liveBelow (l : Launch) (D : va_G) (cA : Nat → ClassId) (sA : Nat → Nat) (fu : Nat) (s : Nat) (x1 : Int32) (M : xM) {rr : Int32 × xM} (h : F_X2_liveBelow fu s x1 M = some rr) : xMet l D cA sA yX2_liveBelow cX2_liveBelow 4 (some .int) xG (0 + 1) 0 0 [.inr (.inr (2, some s)), .inl x1] M (some (.inl rr.1)) rr.2 :=
  xmet_of (by decide +kernel) (Nat.le_of_ble_eq_true rfl) (fun p e s1 m ag below meth c0 A0 ad0 Z X hn hE => wx_X2_liveBelow X hn ⟨Nat.le_refl _, Nat.le_refl _⟩ hE fu s x1 M h)
theorem hw_X2_liveBelow (l : Launch) (D : va_G) (cA : Nat → ClassId) (sA : Nat → Nat) (fu : Nat) {ρ : Type} {r0 : ρ} (kd1 : Nat) : ∀ (as : List xV) (M : xM) (k : Option xV → xM → Option ρ), w_X2_liveBelow fu as M k = some r0 → ∃ v M', xMet l D cA sA yX2_liveBelow cX2_liveBelow 4 (some .int) xG (0 + 1) 0 0 as M v M' ∧ k v M' = some r0 ∧ (kd1 ≠ 2 → ∃ a as', as = .inr (.inr (2, some a)) :: as') := by
  intro as M k h
  unfold w_X2_liveBelow at h
  replace h := pR_some h
  obtain ⟨o, as1, rfl, h⟩ := h
  replace h := bd_some h
  obtain ⟨s, rfl, h⟩ := h
  replace h := pI_some h
  obtain ⟨x1, as1, rfl, h⟩ := h
  replace h := xe_some h
  obtain ⟨rfl, h⟩ := h
  obtain ⟨p1, hp, h⟩ := Option.bind_eq_some_iff.mp h
  exact ⟨_, _, ok_X2_liveBelow l D cA sA fu s x1 M hp, h, fun _ => ⟨_, _, rfl⟩⟩
theorem lk_X2_288 : xLink xG RX2 288 0 yX2_liveBelow 1 := ⟨Or.inl (xg 1302 (by decide +kernel) (by decide +kernel)), (xg 1304 (by decide +kernel) (by decide +kernel)), (xg 34 (by decide +kernel) (by decide +kernel)), (xg 134 (by decide +kernel) (by decide +kernel)), ⟨2, by decide, TX2, 16, rfl⟩⟩
theorem cd_X2_slotOfLive : Cond.code yX2_slotOfLive cX2_slotOfLive 3 (some .int) ∈ xG := (xg 1301 (by decide +kernel) (by decide +kernel))
theorem pr_X2_slotOfLive : (∀ e ∈ pX2_slotOfLive, xrow cX2_slotOfLive 3 kdX2 flX2 0 false RX2 e) ∧ xnext pX2_slotOfLive = true := xrows (by decide +kernel)
set_option maxRecDepth 100000 in
theorem wx_X2_slotOfLive_6 (X : xCtx p R S0 m ag c0 D cA A0 sA 3 cX2_slotOfLive RX2 (.code yX2_slotOfLive cX2_slotOfLive 3 (some .int) :: xG) 0 0) (hi : meth.name = yX2_slotOfLive.name) (hroom : 2 + 2 ≤ R.frames ∧ 60 * (2 + 2) ≤ R.locals) {rr : Int32 × xM} (hE : xEnd l D cA sA cX2_slotOfLive 3 (some .int) R 0 0 (some (.inl rr.1)) rr.2 p e S0 m ag below meth c0 A0 M0 ad0 Z) (fu : Nat) : ∀ (n : Nat) (s : Nat) (x1 : Int32) (x2 : Int32) (M : xM), L_X2_slotOfLive_6 fu n s x1 x2 M = some rr → xWx p l e R S0 m ag below meth c0 D cA A0 sA M0 ad0 3 Z 0 0 6 0 0 [(0, .inr (.inr (2, some s))), (1, .inl x1), (2, .inl x2)] [] M := by
  intro n
  induction n with
  | zero => intro s x1 x2 M h; cases h
  | succ n ih =>
    intro s x1 x2 M h
    rw [← q_X2_slotOfLive_6 fu n s x1 x2 M] at h
    have hT : ∀ w ∈ xG, w ∈ (Cond.code yX2_slotOfLive cX2_slotOfLive 3 (some .int) :: xG) := fun w hw => List.mem_cons_of_mem _ hw
    refine xrun_sound (nst := 0) (isInit := false) (kd := kdX2) X (xcls_mono hT xclsG) (xpool_mono hT plX2) (fun z => by cases z) (fun idx v hf => xkoE_mono hT (koX2_ok _ (xfind_mem hf))) (xents (ca := _) ?_) (endI hE).1 (endI hE).2 (xcuts (cu := _) ?_) pr_X2_slotOfLive.1 pr_X2_slotOfLive.2 _ _ _ _ _ _ _ _ (xat_ok pr_X2_slotOfLive.1 pr_X2_slotOfLive.2).1 (xat_ok pr_X2_slotOfLive.1 pr_X2_slotOfLive.2).2.1 (xat_ok pr_X2_slotOfLive.1 pr_X2_slotOfLive.2).2.2 h
    · exact (List.forall_mem_cons.mpr ⟨(xent_met X (ci := 2) hT cd_X2_liveBelow lk_X2_288 rfl (by decide) rfl (by decide +kernel) (fun z => absurd z (by decide)) (hw_X2_liveBelow l D cA sA fu 0) (fun _ => ⟨by decide, fun _ => ⟨TX2, 16, rfl⟩⟩) (by constructor <;> omega) (by decide)), (fun _ h => nomatch h)⟩)
    · refine (List.forall_mem_cons.mpr ⟨?_, (fun _ h => nomatch h)⟩)
      · intro bc bs ls st M h
        replace h := xz_some h
        obtain ⟨rfl, rfl, h⟩ := h
        replace h := lR_some h
        obtain ⟨o, e0, h⟩ := h
        replace h := bd_some h
        obtain ⟨s', rfl, h⟩ := h
        replace h := lI_some h
        obtain ⟨x1', e1, h⟩ := h
        replace h := lI_some h
        obtain ⟨x2', e2, h⟩ := h
        replace h := xe_some h
        obtain ⟨rfl, h⟩ := h
        exact xWx_ls (ih s' x1' x2' M h) (List.forall_mem_cons.mpr ⟨e0, (List.forall_mem_cons.mpr ⟨e1, (List.forall_mem_cons.mpr ⟨e2, (fun _ h => nomatch h)⟩)⟩)⟩)

set_option maxRecDepth 100000 in
theorem wx_X2_slotOfLive (X : xCtx p R S0 m ag c0 D cA A0 sA 3 cX2_slotOfLive RX2 (.code yX2_slotOfLive cX2_slotOfLive 3 (some .int) :: xG) 0 0) (hi : meth.name = yX2_slotOfLive.name) (hroom : 2 + 2 ≤ R.frames ∧ 60 * (2 + 2) ≤ R.locals) {rr : Int32 × xM} (hE : xEnd l D cA sA cX2_slotOfLive 3 (some .int) R 0 0 (some (.inl rr.1)) rr.2 p e S0 m ag below meth c0 A0 M0 ad0 Z) (fu : Nat) (s : Nat) (x1 : Int32) (M : xM) (h : F_X2_slotOfLive fu s x1 M = some rr) : xWx p l e R S0 m ag below meth c0 D cA A0 sA M0 ad0 3 Z 0 0 0 0 0 [(0, .inr (.inr (2, some s))), (1, .inl x1)] [] M := by
  rw [← q_X2_slotOfLive fu s x1 M] at h
  have hT : ∀ w ∈ xG, w ∈ (Cond.code yX2_slotOfLive cX2_slotOfLive 3 (some .int) :: xG) := fun w hw => List.mem_cons_of_mem _ hw
  refine xrun_sound (nst := 0) (isInit := false) (kd := kdX2) X (xcls_mono hT xclsG) (xpool_mono hT plX2) (fun z => by cases z) (fun idx v hf => xkoE_mono hT (koX2_ok _ (xfind_mem hf))) (xents (ca := _) ?_) (endI hE).1 (endI hE).2 (xcuts (cu := _) ?_) pr_X2_slotOfLive.1 pr_X2_slotOfLive.2 _ _ _ _ _ _ _ _ (xat_ok pr_X2_slotOfLive.1 pr_X2_slotOfLive.2).1 (xat_ok pr_X2_slotOfLive.1 pr_X2_slotOfLive.2).2.1 (xat_ok pr_X2_slotOfLive.1 pr_X2_slotOfLive.2).2.2 h
  · exact (List.forall_mem_cons.mpr ⟨(xent_met X (ci := 2) hT cd_X2_survey lk_X2_174 rfl (by decide) rfl (by decide +kernel) (fun z => absurd z (by decide)) (hw_X2_survey l D cA sA fu 0) (fun _ => ⟨by decide, fun _ => ⟨TX2, 16, rfl⟩⟩) (by constructor <;> omega) (by decide)), (fun _ h => nomatch h)⟩)
  · refine (List.forall_mem_cons.mpr ⟨?_, (fun _ h => nomatch h)⟩)
    · intro bc bs ls st M h
      replace h := xz_some h
      obtain ⟨rfl, rfl, h⟩ := h
      replace h := lR_some h
      obtain ⟨o, e0, h⟩ := h
      replace h := bd_some h
      obtain ⟨s', rfl, h⟩ := h
      replace h := lI_some h
      obtain ⟨x1', e1, h⟩ := h
      replace h := lI_some h
      obtain ⟨x2', e2, h⟩ := h
      replace h := xe_some h
      obtain ⟨rfl, h⟩ := h
      exact xWx_ls (wx_X2_slotOfLive_6 X hi hroom hE fu fu s' x1' x2' M h) (List.forall_mem_cons.mpr ⟨e0, (List.forall_mem_cons.mpr ⟨e1, (List.forall_mem_cons.mpr ⟨e2, (fun _ h => nomatch h)⟩)⟩)⟩)

theorem ok_X2_slotOfLive (l : Launch) (D : va_G) (cA : Nat → ClassId) (sA : Nat → Nat) (fu : Nat) (s : Nat) (x1 : Int32) (M : xM) {rr : Int32 × xM} (h : F_X2_slotOfLive fu s x1 M = some rr) : xMet l D cA sA yX2_slotOfLive cX2_slotOfLive 3 (some .int) xG (2 + 1) 0 0 [.inr (.inr (2, some s)), .inl x1] M (some (.inl rr.1)) rr.2 :=
  xmet_of (by decide +kernel) (Nat.le_of_ble_eq_true rfl) (fun p e s1 m ag below meth c0 A0 ad0 Z X hn hE => wx_X2_slotOfLive X hn ⟨Nat.le_refl _, Nat.le_refl _⟩ hE fu s x1 M h)
theorem hw_X2_slotOfLive (l : Launch) (D : va_G) (cA : Nat → ClassId) (sA : Nat → Nat) (fu : Nat) {ρ : Type} {r0 : ρ} (kd1 : Nat) : ∀ (as : List xV) (M : xM) (k : Option xV → xM → Option ρ), w_X2_slotOfLive fu as M k = some r0 → ∃ v M', xMet l D cA sA yX2_slotOfLive cX2_slotOfLive 3 (some .int) xG (2 + 1) 0 0 as M v M' ∧ k v M' = some r0 ∧ (kd1 ≠ 2 → ∃ a as', as = .inr (.inr (2, some a)) :: as') := by
  intro as M k h
  unfold w_X2_slotOfLive at h
  replace h := pR_some h
  obtain ⟨o, as1, rfl, h⟩ := h
  replace h := bd_some h
  obtain ⟨s, rfl, h⟩ := h
  replace h := pI_some h
  obtain ⟨x1, as1, rfl, h⟩ := h
  replace h := xe_some h
  obtain ⟨rfl, h⟩ := h
  obtain ⟨p1, hp, h⟩ := Option.bind_eq_some_iff.mp h
  exact ⟨_, _, ok_X2_slotOfLive l D cA sA fu s x1 M hp, h, fun _ => ⟨_, _, rfl⟩⟩
theorem cd_X3_sayingLike : Cond.code yX3_sayingLike cX3_sayingLike 5 (some .int) ∈ xG := (xg 1389 (by decide +kernel) (by decide +kernel))
theorem pr_X3_sayingLike : (∀ e ∈ pX3_sayingLike, xrow cX3_sayingLike 5 kdX3 flX3 0 false RX3 e) ∧ xnext pX3_sayingLike = true := xrows (by decide +kernel)
set_option maxRecDepth 100000 in
theorem wx_X3_sayingLike_5 (X : xCtx p R S0 m ag c0 D cA A0 sA 5 cX3_sayingLike RX3 (.code yX3_sayingLike cX3_sayingLike 5 (some .int) :: xG) 0 0) (hi : meth.name = yX3_sayingLike.name) (hroom : 0 + 2 ≤ R.frames ∧ 60 * (0 + 2) ≤ R.locals) {rr : Int32 × xM} (hE : xEnd l D cA sA cX3_sayingLike 5 (some .int) R 0 0 (some (.inl rr.1)) rr.2 p e S0 m ag below meth c0 A0 M0 ad0 Z) (fu : Nat) : ∀ (n : Nat) (s : Nat) (x1 : Int32) (x2 : Int32) (x3 : Int32) (x4 : Int32) (M : xM), L_X3_sayingLike_5 fu n s x1 x2 x3 x4 M = some rr → xWx p l e R S0 m ag below meth c0 D cA A0 sA M0 ad0 5 Z 0 0 5 0 0 [(0, .inr (.inr (3, some s))), (1, .inl x1), (2, .inl x2), (3, .inl x3), (4, .inl x4)] [] M := by
  intro n
  induction n with
  | zero => intro s x1 x2 x3 x4 M h; cases h
  | succ n ih =>
    intro s x1 x2 x3 x4 M h
    rw [← q_X3_sayingLike_5 fu n s x1 x2 x3 x4 M] at h
    have hT : ∀ w ∈ xG, w ∈ (Cond.code yX3_sayingLike cX3_sayingLike 5 (some .int) :: xG) := fun w hw => List.mem_cons_of_mem _ hw
    refine xrun_sound (nst := 0) (isInit := false) (kd := kdX3) X (xcls_mono hT xclsG) (xpool_mono hT plX3) (fun z => by cases z) (fun idx v hf => xkoE_mono hT (koX3_ok _ (xfind_mem hf))) (xents (ca := _) ?_) (endI hE).1 (endI hE).2 (xcuts (cu := _) ?_) pr_X3_sayingLike.1 pr_X3_sayingLike.2 _ _ _ _ _ _ _ _ (xat_ok pr_X3_sayingLike.1 pr_X3_sayingLike.2).1 (xat_ok pr_X3_sayingLike.1 pr_X3_sayingLike.2).2.1 (xat_ok pr_X3_sayingLike.1 pr_X3_sayingLike.2).2.2 h
    · exact (fun _ h => nomatch h)
    · refine (List.forall_mem_cons.mpr ⟨?_, (fun _ h => nomatch h)⟩)
      · intro bc bs ls st M h
        replace h := xz_some h
        obtain ⟨rfl, rfl, h⟩ := h
        replace h := lR_some h
        obtain ⟨o, e0, h⟩ := h
        replace h := bd_some h
        obtain ⟨s', rfl, h⟩ := h
        replace h := lI_some h
        obtain ⟨x1', e1, h⟩ := h
        replace h := lI_some h
        obtain ⟨x2', e2, h⟩ := h
        replace h := lI_some h
        obtain ⟨x3', e3, h⟩ := h
        replace h := lI_some h
        obtain ⟨x4', e4, h⟩ := h
        replace h := xe_some h
        obtain ⟨rfl, h⟩ := h
        exact xWx_ls (ih s' x1' x2' x3' x4' M h) (List.forall_mem_cons.mpr ⟨e0, (List.forall_mem_cons.mpr ⟨e1, (List.forall_mem_cons.mpr ⟨e2, (List.forall_mem_cons.mpr ⟨e3, (List.forall_mem_cons.mpr ⟨e4, (fun _ h => nomatch h)⟩)⟩)⟩)⟩)⟩)

set_option maxRecDepth 100000 in
theorem wx_X3_sayingLike (X : xCtx p R S0 m ag c0 D cA A0 sA 5 cX3_sayingLike RX3 (.code yX3_sayingLike cX3_sayingLike 5 (some .int) :: xG) 0 0) (hi : meth.name = yX3_sayingLike.name) (hroom : 0 + 2 ≤ R.frames ∧ 60 * (0 + 2) ≤ R.locals) {rr : Int32 × xM} (hE : xEnd l D cA sA cX3_sayingLike 5 (some .int) R 0 0 (some (.inl rr.1)) rr.2 p e S0 m ag below meth c0 A0 M0 ad0 Z) (fu : Nat) (s : Nat) (x1 : Int32) (x2 : Int32) (M : xM) (h : F_X3_sayingLike fu s x1 x2 M = some rr) : xWx p l e R S0 m ag below meth c0 D cA A0 sA M0 ad0 5 Z 0 0 0 0 0 [(0, .inr (.inr (3, some s))), (1, .inl x1), (2, .inl x2)] [] M := by
  rw [← q_X3_sayingLike fu s x1 x2 M] at h
  have hT : ∀ w ∈ xG, w ∈ (Cond.code yX3_sayingLike cX3_sayingLike 5 (some .int) :: xG) := fun w hw => List.mem_cons_of_mem _ hw
  refine xrun_sound (nst := 0) (isInit := false) (kd := kdX3) X (xcls_mono hT xclsG) (xpool_mono hT plX3) (fun z => by cases z) (fun idx v hf => xkoE_mono hT (koX3_ok _ (xfind_mem hf))) (xents (ca := _) ?_) (endI hE).1 (endI hE).2 (xcuts (cu := _) ?_) pr_X3_sayingLike.1 pr_X3_sayingLike.2 _ _ _ _ _ _ _ _ (xat_ok pr_X3_sayingLike.1 pr_X3_sayingLike.2).1 (xat_ok pr_X3_sayingLike.1 pr_X3_sayingLike.2).2.1 (xat_ok pr_X3_sayingLike.1 pr_X3_sayingLike.2).2.2 h
  · exact (fun _ h => nomatch h)
  · refine (List.forall_mem_cons.mpr ⟨?_, (fun _ h => nomatch h)⟩)
    · intro bc bs ls st M h
      replace h := xz_some h
      obtain ⟨rfl, rfl, h⟩ := h
      replace h := lR_some h
      obtain ⟨o, e0, h⟩ := h
      replace h := bd_some h
      obtain ⟨s', rfl, h⟩ := h
      replace h := lI_some h
      obtain ⟨x1', e1, h⟩ := h
      replace h := lI_some h
      obtain ⟨x2', e2, h⟩ := h
      replace h := lI_some h
      obtain ⟨x3', e3, h⟩ := h
      replace h := lI_some h
      obtain ⟨x4', e4, h⟩ := h
      replace h := xe_some h
      obtain ⟨rfl, h⟩ := h
      exact xWx_ls (wx_X3_sayingLike_5 X hi hroom hE fu fu s' x1' x2' x3' x4' M h) (List.forall_mem_cons.mpr ⟨e0, (List.forall_mem_cons.mpr ⟨e1, (List.forall_mem_cons.mpr ⟨e2, (List.forall_mem_cons.mpr ⟨e3, (List.forall_mem_cons.mpr ⟨e4, (fun _ h => nomatch h)⟩)⟩)⟩)⟩)⟩)

theorem ok_X3_sayingLike (l : Launch) (D : va_G) (cA : Nat → ClassId) (sA : Nat → Nat) (fu : Nat) (s : Nat) (x1 : Int32) (x2 : Int32) (M : xM) {rr : Int32 × xM} (h : F_X3_sayingLike fu s x1 x2 M = some rr) : xMet l D cA sA yX3_sayingLike cX3_sayingLike 5 (some .int) xG (0 + 1) 0 0 [.inr (.inr (3, some s)), .inl x1, .inl x2] M (some (.inl rr.1)) rr.2 :=
  xmet_of (by decide +kernel) (Nat.le_of_ble_eq_true rfl) (fun p e s1 m ag below meth c0 A0 ad0 Z X hn hE => wx_X3_sayingLike X hn ⟨Nat.le_refl _, Nat.le_refl _⟩ hE fu s x1 x2 M h)
theorem hw_X3_sayingLike (l : Launch) (D : va_G) (cA : Nat → ClassId) (sA : Nat → Nat) (fu : Nat) {ρ : Type} {r0 : ρ} (kd1 : Nat) : ∀ (as : List xV) (M : xM) (k : Option xV → xM → Option ρ), w_X3_sayingLike fu as M k = some r0 → ∃ v M', xMet l D cA sA yX3_sayingLike cX3_sayingLike 5 (some .int) xG (0 + 1) 0 0 as M v M' ∧ k v M' = some r0 ∧ (kd1 ≠ 2 → ∃ a as', as = .inr (.inr (3, some a)) :: as') := by
  intro as M k h
  unfold w_X3_sayingLike at h
  replace h := pR_some h
  obtain ⟨o, as1, rfl, h⟩ := h
  replace h := bd_some h
  obtain ⟨s, rfl, h⟩ := h
  replace h := pI_some h
  obtain ⟨x1, as1, rfl, h⟩ := h
  replace h := pI_some h
  obtain ⟨x2, as1, rfl, h⟩ := h
  replace h := xe_some h
  obtain ⟨rfl, h⟩ := h
  obtain ⟨p1, hp, h⟩ := Option.bind_eq_some_iff.mp h
  exact ⟨_, _, ok_X3_sayingLike l D cA sA fu s x1 x2 M hp, h, fun _ => ⟨_, _, rfl⟩⟩
theorem lk_X3_65 : xLink xG RX3 65 0 yX3_sayingLike 2 := ⟨Or.inl (xg 1386 (by decide +kernel) (by decide +kernel)), (xg 1388 (by decide +kernel) (by decide +kernel)), (xg 37 (by decide +kernel) (by decide +kernel)), (xg 139 (by decide +kernel) (by decide +kernel)), ⟨3, by decide, TX3, 6, rfl⟩⟩
theorem cd_X3_mostAlike : Cond.code yX3_mostAlike cX3_mostAlike 4 (some .int) ∈ xG := (xg 1385 (by decide +kernel) (by decide +kernel))
theorem pr_X3_mostAlike : (∀ e ∈ pX3_mostAlike, xrow cX3_mostAlike 4 kdX3 flX3 0 false RX3 e) ∧ xnext pX3_mostAlike = true := xrows (by decide +kernel)
set_option maxRecDepth 100000 in
theorem wx_X3_mostAlike_4 (X : xCtx p R S0 m ag c0 D cA A0 sA 4 cX3_mostAlike RX3 (.code yX3_mostAlike cX3_mostAlike 4 (some .int) :: xG) 0 0) (hi : meth.name = yX3_mostAlike.name) (hroom : 6 + 2 ≤ R.frames ∧ 60 * (6 + 2) ≤ R.locals) {rr : Int32 × xM} (hE : xEnd l D cA sA cX3_mostAlike 4 (some .int) R 0 0 (some (.inl rr.1)) rr.2 p e S0 m ag below meth c0 A0 M0 ad0 Z) (fu : Nat) : ∀ (n : Nat) (s : Nat) (x1 : Int32) (x2 : Int32) (x3 : Int32) (M : xM), L_X3_mostAlike_4 fu n s x1 x2 x3 M = some rr → xWx p l e R S0 m ag below meth c0 D cA A0 sA M0 ad0 4 Z 0 0 4 0 0 [(0, .inr (.inr (3, some s))), (1, .inl x1), (2, .inl x2), (3, .inl x3)] [] M := by
  intro n
  induction n with
  | zero => intro s x1 x2 x3 M h; cases h
  | succ n ih =>
    intro s x1 x2 x3 M h
    rw [← q_X3_mostAlike_4 fu n s x1 x2 x3 M] at h
    have hT : ∀ w ∈ xG, w ∈ (Cond.code yX3_mostAlike cX3_mostAlike 4 (some .int) :: xG) := fun w hw => List.mem_cons_of_mem _ hw
    refine xrun_sound (nst := 0) (isInit := false) (kd := kdX3) X (xcls_mono hT xclsG) (xpool_mono hT plX3) (fun z => by cases z) (fun idx v hf => xkoE_mono hT (koX3_ok _ (xfind_mem hf))) (xents (ca := _) ?_) (endI hE).1 (endI hE).2 (xcuts (cu := _) ?_) pr_X3_mostAlike.1 pr_X3_mostAlike.2 _ _ _ _ _ _ _ _ (xat_ok pr_X3_mostAlike.1 pr_X3_mostAlike.2).1 (xat_ok pr_X3_mostAlike.1 pr_X3_mostAlike.2).2.1 (xat_ok pr_X3_mostAlike.1 pr_X3_mostAlike.2).2.2 h
    · exact (List.forall_mem_cons.mpr ⟨(xent_met X (ci := 3) hT cd_X3_sayingLike lk_X3_65 rfl (by decide) rfl (by decide +kernel) (fun z => absurd z (by decide)) (hw_X3_sayingLike l D cA sA fu 0) (fun _ => ⟨by decide, fun _ => ⟨TX3, 6, rfl⟩⟩) (by constructor <;> omega) (by decide)), (List.forall_mem_cons.mpr ⟨(xent_max X hT (xg 1390 (by decide +kernel) (by decide +kernel)) (xg 429 (by decide +kernel) (by decide +kernel)) (xg 136 (by decide +kernel) (by decide +kernel)) (xg 430 (by decide +kernel) (by decide +kernel)) rfl), (fun _ h => nomatch h)⟩)⟩)
    · refine (List.forall_mem_cons.mpr ⟨?_, (fun _ h => nomatch h)⟩)
      · intro bc bs ls st M h
        replace h := xz_some h
        obtain ⟨rfl, rfl, h⟩ := h
        replace h := lR_some h
        obtain ⟨o, e0, h⟩ := h
        replace h := bd_some h
        obtain ⟨s', rfl, h⟩ := h
        replace h := lI_some h
        obtain ⟨x1', e1, h⟩ := h
        replace h := lI_some h
        obtain ⟨x2', e2, h⟩ := h
        replace h := lI_some h
        obtain ⟨x3', e3, h⟩ := h
        replace h := xe_some h
        obtain ⟨rfl, h⟩ := h
        exact xWx_ls (ih s' x1' x2' x3' M h) (List.forall_mem_cons.mpr ⟨e0, (List.forall_mem_cons.mpr ⟨e1, (List.forall_mem_cons.mpr ⟨e2, (List.forall_mem_cons.mpr ⟨e3, (fun _ h => nomatch h)⟩)⟩)⟩)⟩)

set_option maxRecDepth 100000 in
theorem wx_X3_mostAlike (X : xCtx p R S0 m ag c0 D cA A0 sA 4 cX3_mostAlike RX3 (.code yX3_mostAlike cX3_mostAlike 4 (some .int) :: xG) 0 0) (hi : meth.name = yX3_mostAlike.name) (hroom : 6 + 2 ≤ R.frames ∧ 60 * (6 + 2) ≤ R.locals) {rr : Int32 × xM} (hE : xEnd l D cA sA cX3_mostAlike 4 (some .int) R 0 0 (some (.inl rr.1)) rr.2 p e S0 m ag below meth c0 A0 M0 ad0 Z) (fu : Nat) (s : Nat) (x1 : Int32) (M : xM) (h : F_X3_mostAlike fu s x1 M = some rr) : xWx p l e R S0 m ag below meth c0 D cA A0 sA M0 ad0 4 Z 0 0 0 0 0 [(0, .inr (.inr (3, some s))), (1, .inl x1)] [] M := by
  rw [← q_X3_mostAlike fu s x1 M] at h
  have hT : ∀ w ∈ xG, w ∈ (Cond.code yX3_mostAlike cX3_mostAlike 4 (some .int) :: xG) := fun w hw => List.mem_cons_of_mem _ hw
  refine xrun_sound (nst := 0) (isInit := false) (kd := kdX3) X (xcls_mono hT xclsG) (xpool_mono hT plX3) (fun z => by cases z) (fun idx v hf => xkoE_mono hT (koX3_ok _ (xfind_mem hf))) (xents (ca := _) ?_) (endI hE).1 (endI hE).2 (xcuts (cu := _) ?_) pr_X3_mostAlike.1 pr_X3_mostAlike.2 _ _ _ _ _ _ _ _ (xat_ok pr_X3_mostAlike.1 pr_X3_mostAlike.2).1 (xat_ok pr_X3_mostAlike.1 pr_X3_mostAlike.2).2.1 (xat_ok pr_X3_mostAlike.1 pr_X3_mostAlike.2).2.2 h
  · exact (fun _ h => nomatch h)
  · refine (List.forall_mem_cons.mpr ⟨?_, (fun _ h => nomatch h)⟩)
    · intro bc bs ls st M h
      replace h := xz_some h
      obtain ⟨rfl, rfl, h⟩ := h
      replace h := lR_some h
      obtain ⟨o, e0, h⟩ := h
      replace h := bd_some h
      obtain ⟨s', rfl, h⟩ := h
      replace h := lI_some h
      obtain ⟨x1', e1, h⟩ := h
      replace h := lI_some h
      obtain ⟨x2', e2, h⟩ := h
      replace h := lI_some h
      obtain ⟨x3', e3, h⟩ := h
      replace h := xe_some h
      obtain ⟨rfl, h⟩ := h
      exact xWx_ls (wx_X3_mostAlike_4 X hi hroom hE fu fu s' x1' x2' x3' M h) (List.forall_mem_cons.mpr ⟨e0, (List.forall_mem_cons.mpr ⟨e1, (List.forall_mem_cons.mpr ⟨e2, (List.forall_mem_cons.mpr ⟨e3, (fun _ h => nomatch h)⟩)⟩)⟩)⟩)

theorem ok_X3_mostAlike (l : Launch) (D : va_G) (cA : Nat → ClassId) (sA : Nat → Nat) (fu : Nat) (s : Nat) (x1 : Int32) (M : xM) {rr : Int32 × xM} (h : F_X3_mostAlike fu s x1 M = some rr) : xMet l D cA sA yX3_mostAlike cX3_mostAlike 4 (some .int) xG (6 + 1) 0 0 [.inr (.inr (3, some s)), .inl x1] M (some (.inl rr.1)) rr.2 :=
  xmet_of (by decide +kernel) (Nat.le_of_ble_eq_true rfl) (fun p e s1 m ag below meth c0 A0 ad0 Z X hn hE => wx_X3_mostAlike X hn ⟨Nat.le_refl _, Nat.le_refl _⟩ hE fu s x1 M h)
theorem hw_X3_mostAlike (l : Launch) (D : va_G) (cA : Nat → ClassId) (sA : Nat → Nat) (fu : Nat) {ρ : Type} {r0 : ρ} (kd1 : Nat) : ∀ (as : List xV) (M : xM) (k : Option xV → xM → Option ρ), w_X3_mostAlike fu as M k = some r0 → ∃ v M', xMet l D cA sA yX3_mostAlike cX3_mostAlike 4 (some .int) xG (6 + 1) 0 0 as M v M' ∧ k v M' = some r0 ∧ (kd1 ≠ 2 → ∃ a as', as = .inr (.inr (3, some a)) :: as') := by
  intro as M k h
  unfold w_X3_mostAlike at h
  replace h := pR_some h
  obtain ⟨o, as1, rfl, h⟩ := h
  replace h := bd_some h
  obtain ⟨s, rfl, h⟩ := h
  replace h := pI_some h
  obtain ⟨x1, as1, rfl, h⟩ := h
  replace h := xe_some h
  obtain ⟨rfl, h⟩ := h
  obtain ⟨p1, hp, h⟩ := Option.bind_eq_some_iff.mp h
  exact ⟨_, _, ok_X3_mostAlike l D cA sA fu s x1 M hp, h, fun _ => ⟨_, _, rfl⟩⟩
theorem lk_X3_56 : xLink xG RX3 56 0 yX7_isPage 2 := ⟨Or.inl (xg 1381 (by decide +kernel) (by decide +kernel)), (xg 990 (by decide +kernel) (by decide +kernel)), (xg 991 (by decide +kernel) (by decide +kernel)), (xg 130 (by decide +kernel) (by decide +kernel)), ⟨7, by decide, TX7, 9, rfl⟩⟩
theorem lk_X3_62 : xLink xG RX3 62 0 yX3_mostAlike 1 := ⟨Or.inl (xg 1382 (by decide +kernel) (by decide +kernel)), (xg 1384 (by decide +kernel) (by decide +kernel)), (xg 36 (by decide +kernel) (by decide +kernel)), (xg 139 (by decide +kernel) (by decide +kernel)), ⟨3, by decide, TX3, 6, rfl⟩⟩
theorem lk_X3_52 : xLink xG RX3 52 0 yX3_fitting 1 := ⟨Or.inl (xg 1380 (by decide +kernel) (by decide +kernel)), (xg 1365 (by decide +kernel) (by decide +kernel)), (xg 1366 (by decide +kernel) (by decide +kernel)), (xg 139 (by decide +kernel) (by decide +kernel)), ⟨3, by decide, TX3, 6, rfl⟩⟩
theorem cd_X3_bestPage : Cond.code yX3_bestPage cX3_bestPage 7 (some .int) ∈ xG := (xg 1379 (by decide +kernel) (by decide +kernel))
theorem pr_X3_bestPage : (∀ e ∈ pX3_bestPage, xrow cX3_bestPage 7 kdX3 flX3 0 false RX3 e) ∧ xnext pX3_bestPage = true := xrows (by decide +kernel)
set_option maxRecDepth 100000 in
theorem wx_X3_bestPage_12 (X : xCtx p R S0 m ag c0 D cA A0 sA 7 cX3_bestPage RX3 (.code yX3_bestPage cX3_bestPage 7 (some .int) :: xG) 0 0) (hi : meth.name = yX3_bestPage.name) (hroom : 7 + 2 ≤ R.frames ∧ 60 * (7 + 2) ≤ R.locals) {rr : Int32 × xM} (hE : xEnd l D cA sA cX3_bestPage 7 (some .int) R 0 0 (some (.inl rr.1)) rr.2 p e S0 m ag below meth c0 A0 M0 ad0 Z) (fu : Nat) : ∀ (n : Nat) (s : Nat) (x2 : Option Nat) (x3 : Int32) (x4 : Int32) (x5 : Int32) (M : xM), L_X3_bestPage_12 fu n s x2 x3 x4 x5 M = some rr → xWx p l e R S0 m ag below meth c0 D cA A0 sA M0 ad0 7 Z 0 0 12 0 0 [(0, .inr (.inr (3, some s))), (2, .inr (.inr (7, x2))), (3, .inl x3), (4, .inl x4), (5, .inl x5)] [] M := by
  intro n
  induction n with
  | zero => intro s x2 x3 x4 x5 M h; cases h
  | succ n ih =>
    intro s x2 x3 x4 x5 M h
    rw [← q_X3_bestPage_12 fu n s x2 x3 x4 x5 M] at h
    have hT : ∀ w ∈ xG, w ∈ (Cond.code yX3_bestPage cX3_bestPage 7 (some .int) :: xG) := fun w hw => List.mem_cons_of_mem _ hw
    refine xrun_sound (nst := 0) (isInit := false) (kd := kdX3) X (xcls_mono hT xclsG) (xpool_mono hT plX3) (fun z => by cases z) (fun idx v hf => xkoE_mono hT (koX3_ok _ (xfind_mem hf))) (xents (ca := _) ?_) (endI hE).1 (endI hE).2 (xcuts (cu := _) ?_) pr_X3_bestPage.1 pr_X3_bestPage.2 _ _ _ _ _ _ _ _ (xat_ok pr_X3_bestPage.1 pr_X3_bestPage.2).1 (xat_ok pr_X3_bestPage.1 pr_X3_bestPage.2).2.1 (xat_ok pr_X3_bestPage.1 pr_X3_bestPage.2).2.2 h
    · exact (List.forall_mem_cons.mpr ⟨(xent_met X (ci := 7) hT cd_X7_isPage lk_X3_56 rfl (by decide) rfl (by decide +kernel) (fun z => absurd z (by decide)) (hw_X7_isPage l D cA sA fu 0) (fun _ => ⟨by decide, fun _ => ⟨TX7, 9, rfl⟩⟩) (by constructor <;> omega) (by decide)), (List.forall_mem_cons.mpr ⟨(xent_met X (ci := 3) hT cd_X3_mostAlike lk_X3_62 rfl (by decide) rfl (by decide +kernel) (fun z => absurd z (by decide)) (hw_X3_mostAlike l D cA sA fu 0) (fun _ => ⟨by decide, fun _ => ⟨TX3, 6, rfl⟩⟩) (by constructor <;> omega) (by decide)), (fun _ h => nomatch h)⟩)⟩)
    · refine (List.forall_mem_cons.mpr ⟨?_, (fun _ h => nomatch h)⟩)
      · intro bc bs ls st M h
        replace h := xz_some h
        obtain ⟨rfl, rfl, h⟩ := h
        replace h := lR_some h
        obtain ⟨o, e0, h⟩ := h
        replace h := bd_some h
        obtain ⟨s', rfl, h⟩ := h
        replace h := lR_some h
        obtain ⟨x2', e2, h⟩ := h
        replace h := lI_some h
        obtain ⟨x3', e3, h⟩ := h
        replace h := lI_some h
        obtain ⟨x4', e4, h⟩ := h
        replace h := lI_some h
        obtain ⟨x5', e5, h⟩ := h
        replace h := xe_some h
        obtain ⟨rfl, h⟩ := h
        exact xWx_ls (ih s' x2' x3' x4' x5' M h) (List.forall_mem_cons.mpr ⟨e0, (List.forall_mem_cons.mpr ⟨e2, (List.forall_mem_cons.mpr ⟨e3, (List.forall_mem_cons.mpr ⟨e4, (List.forall_mem_cons.mpr ⟨e5, (fun _ h => nomatch h)⟩)⟩)⟩)⟩)⟩)

set_option maxRecDepth 100000 in
theorem wx_X3_bestPage (X : xCtx p R S0 m ag c0 D cA A0 sA 7 cX3_bestPage RX3 (.code yX3_bestPage cX3_bestPage 7 (some .int) :: xG) 0 0) (hi : meth.name = yX3_bestPage.name) (hroom : 7 + 2 ≤ R.frames ∧ 60 * (7 + 2) ≤ R.locals) {rr : Int32 × xM} (hE : xEnd l D cA sA cX3_bestPage 7 (some .int) R 0 0 (some (.inl rr.1)) rr.2 p e S0 m ag below meth c0 A0 M0 ad0 Z) (fu : Nat) (s : Nat) (x1 : Option Nat) (x2 : Option Nat) (M : xM) (h : F_X3_bestPage fu s x1 x2 M = some rr) : xWx p l e R S0 m ag below meth c0 D cA A0 sA M0 ad0 7 Z 0 0 0 0 0 [(0, .inr (.inr (3, some s))), (1, .inr (.inr (1, x1))), (2, .inr (.inr (7, x2)))] [] M := by
  rw [← q_X3_bestPage fu s x1 x2 M] at h
  have hT : ∀ w ∈ xG, w ∈ (Cond.code yX3_bestPage cX3_bestPage 7 (some .int) :: xG) := fun w hw => List.mem_cons_of_mem _ hw
  refine xrun_sound (nst := 0) (isInit := false) (kd := kdX3) X (xcls_mono hT xclsG) (xpool_mono hT plX3) (fun z => by cases z) (fun idx v hf => xkoE_mono hT (koX3_ok _ (xfind_mem hf))) (xents (ca := _) ?_) (endI hE).1 (endI hE).2 (xcuts (cu := _) ?_) pr_X3_bestPage.1 pr_X3_bestPage.2 _ _ _ _ _ _ _ _ (xat_ok pr_X3_bestPage.1 pr_X3_bestPage.2).1 (xat_ok pr_X3_bestPage.1 pr_X3_bestPage.2).2.1 (xat_ok pr_X3_bestPage.1 pr_X3_bestPage.2).2.2 h
  · exact (List.forall_mem_cons.mpr ⟨(xent_met X (ci := 3) hT cd_X3_fitting lk_X3_52 rfl (by decide) rfl (by decide +kernel) (fun z => absurd z (by decide)) (hw_X3_fitting l D cA sA fu 0) (fun _ => ⟨by decide, fun _ => ⟨TX3, 6, rfl⟩⟩) (by constructor <;> omega) (by decide)), (fun _ h => nomatch h)⟩)
  · refine (List.forall_mem_cons.mpr ⟨?_, (fun _ h => nomatch h)⟩)
    · intro bc bs ls st M h
      replace h := xz_some h
      obtain ⟨rfl, rfl, h⟩ := h
      replace h := lR_some h
      obtain ⟨o, e0, h⟩ := h
      replace h := bd_some h
      obtain ⟨s', rfl, h⟩ := h
      replace h := lR_some h
      obtain ⟨x2', e2, h⟩ := h
      replace h := lI_some h
      obtain ⟨x3', e3, h⟩ := h
      replace h := lI_some h
      obtain ⟨x4', e4, h⟩ := h
      replace h := lI_some h
      obtain ⟨x5', e5, h⟩ := h
      replace h := xe_some h
      obtain ⟨rfl, h⟩ := h
      exact xWx_ls (wx_X3_bestPage_12 X hi hroom hE fu fu s' x2' x3' x4' x5' M h) (List.forall_mem_cons.mpr ⟨e0, (List.forall_mem_cons.mpr ⟨e2, (List.forall_mem_cons.mpr ⟨e3, (List.forall_mem_cons.mpr ⟨e4, (List.forall_mem_cons.mpr ⟨e5, (fun _ h => nomatch h)⟩)⟩)⟩)⟩)⟩)

theorem ok_X3_bestPage (l : Launch) (D : va_G) (cA : Nat → ClassId) (sA : Nat → Nat) (fu : Nat) (s : Nat) (x1 : Option Nat) (x2 : Option Nat) (M : xM) {rr : Int32 × xM} (h : F_X3_bestPage fu s x1 x2 M = some rr) : xMet l D cA sA yX3_bestPage cX3_bestPage 7 (some .int) xG (7 + 1) 0 0 [.inr (.inr (3, some s)), .inr (.inr (1, x1)), .inr (.inr (7, x2))] M (some (.inl rr.1)) rr.2 :=
  xmet_of (by decide +kernel) (Nat.le_of_ble_eq_true rfl) (fun p e s1 m ag below meth c0 A0 ad0 Z X hn hE => wx_X3_bestPage X hn ⟨Nat.le_refl _, Nat.le_refl _⟩ hE fu s x1 x2 M h)
theorem hw_X3_bestPage (l : Launch) (D : va_G) (cA : Nat → ClassId) (sA : Nat → Nat) (fu : Nat) {ρ : Type} {r0 : ρ} (kd1 : Nat) : ∀ (as : List xV) (M : xM) (k : Option xV → xM → Option ρ), w_X3_bestPage fu as M k = some r0 → ∃ v M', xMet l D cA sA yX3_bestPage cX3_bestPage 7 (some .int) xG (7 + 1) 0 0 as M v M' ∧ k v M' = some r0 ∧ (kd1 ≠ 2 → ∃ a as', as = .inr (.inr (3, some a)) :: as') := by
  intro as M k h
  unfold w_X3_bestPage at h
  replace h := pR_some h
  obtain ⟨o, as1, rfl, h⟩ := h
  replace h := bd_some h
  obtain ⟨s, rfl, h⟩ := h
  replace h := pR_some h
  obtain ⟨x1, as1, rfl, h⟩ := h
  replace h := pR_some h
  obtain ⟨x2, as1, rfl, h⟩ := h
  replace h := xe_some h
  obtain ⟨rfl, h⟩ := h
  obtain ⟨p1, hp, h⟩ := Option.bind_eq_some_iff.mp h
  exact ⟨_, _, ok_X3_bestPage l D cA sA fu s x1 x2 M hp, h, fun _ => ⟨_, _, rfl⟩⟩
theorem lk_X11_304 : xLink xG RX11 304 0 yX3_bestPage 2 := ⟨Or.inl (xg 1376 (by decide +kernel) (by decide +kernel)), (xg 1377 (by decide +kernel) (by decide +kernel)), (xg 1378 (by decide +kernel) (by decide +kernel)), (xg 139 (by decide +kernel) (by decide +kernel)), ⟨3, by decide, TX3, 6, rfl⟩⟩
theorem cd_X11_look : Cond.code yX11_look cX11_look 1 (some .int) ∈ xG := (xg 1375 (by decide +kernel) (by decide +kernel))
theorem pr_X11_look : (∀ e ∈ pX11_look, xrow cX11_look 1 kdX11 flX11 0 false RX11 e) ∧ xnext pX11_look = true := xrows (by decide +kernel)
set_option maxRecDepth 100000 in
theorem wx_X11_look (X : xCtx p R S0 m ag c0 D cA A0 sA 1 cX11_look RX11 (.code yX11_look cX11_look 1 (some .int) :: xG) 0 0) (hi : meth.name = yX11_look.name) (hroom : 12 + 2 ≤ R.frames ∧ 60 * (12 + 2) ≤ R.locals) {rr : Int32 × xM} (hE : xEnd l D cA sA cX11_look 1 (some .int) R 0 0 (some (.inl rr.1)) rr.2 p e S0 m ag below meth c0 A0 M0 ad0 Z) (fu : Nat) (s : Nat) (M : xM) (h : F_X11_look fu s M = some rr) : xWx p l e R S0 m ag below meth c0 D cA A0 sA M0 ad0 1 Z 0 0 0 0 0 [(0, .inr (.inr (11, some s)))] [] M := by
  rw [← q_X11_look fu s M] at h
  have hT : ∀ w ∈ xG, w ∈ (Cond.code yX11_look cX11_look 1 (some .int) :: xG) := fun w hw => List.mem_cons_of_mem _ hw
  refine xrun_sound (nst := 0) (isInit := false) (kd := kdX11) X (xcls_mono hT xclsG) (xpool_mono hT plX11) (fun z => by cases z) (fun idx v hf => xkoE_mono hT (koX11_ok _ (xfind_mem hf))) (xents (ca := _) ?_) (endI hE).1 (endI hE).2 (xcuts (cu := _) ?_) pr_X11_look.1 pr_X11_look.2 _ _ _ _ _ _ _ _ (xat_ok pr_X11_look.1 pr_X11_look.2).1 (xat_ok pr_X11_look.1 pr_X11_look.2).2.1 (xat_ok pr_X11_look.1 pr_X11_look.2).2.2 h
  · exact (List.forall_mem_cons.mpr ⟨(xent_met X (ci := 5) hT cd_X5_run lk_X11_207 rfl (by decide) rfl (by decide +kernel) (fun z => absurd z (by decide)) (hw_X5_run l D cA sA fu 0) (fun _ => ⟨by decide, fun _ => ⟨TX5, 7, rfl⟩⟩) (by constructor <;> omega) (by decide)), (List.forall_mem_cons.mpr ⟨(xent_met X (ci := 3) hT cd_X3_bestPage lk_X11_304 rfl (by decide) rfl (by decide +kernel) (fun z => absurd z (by decide)) (hw_X3_bestPage l D cA sA fu 0) (fun _ => ⟨by decide, fun _ => ⟨TX3, 6, rfl⟩⟩) (by constructor <;> omega) (by decide)), (fun _ h => nomatch h)⟩)⟩)
  · exact (fun _ h => nomatch h)

theorem ok_X11_look (l : Launch) (D : va_G) (cA : Nat → ClassId) (sA : Nat → Nat) (fu : Nat) (s : Nat) (M : xM) {rr : Int32 × xM} (h : F_X11_look fu s M = some rr) : xMet l D cA sA yX11_look cX11_look 1 (some .int) xG (12 + 1) 0 0 [.inr (.inr (11, some s))] M (some (.inl rr.1)) rr.2 :=
  xmet_of (by decide +kernel) (Nat.le_of_ble_eq_true rfl) (fun p e s1 m ag below meth c0 A0 ad0 Z X hn hE => wx_X11_look X hn ⟨Nat.le_refl _, Nat.le_refl _⟩ hE fu s M h)
theorem hw_X11_look (l : Launch) (D : va_G) (cA : Nat → ClassId) (sA : Nat → Nat) (fu : Nat) {ρ : Type} {r0 : ρ} (kd1 : Nat) : ∀ (as : List xV) (M : xM) (k : Option xV → xM → Option ρ), w_X11_look fu as M k = some r0 → ∃ v M', xMet l D cA sA yX11_look cX11_look 1 (some .int) xG (12 + 1) 0 0 as M v M' ∧ k v M' = some r0 ∧ (kd1 ≠ 2 → ∃ a as', as = .inr (.inr (11, some a)) :: as') := by
  intro as M k h
  unfold w_X11_look at h
  replace h := pR_some h
  obtain ⟨o, as1, rfl, h⟩ := h
  replace h := bd_some h
  obtain ⟨s, rfl, h⟩ := h
  replace h := xe_some h
  obtain ⟨rfl, h⟩ := h
  obtain ⟨p1, hp, h⟩ := Option.bind_eq_some_iff.mp h
  exact ⟨_, _, ok_X11_look l D cA sA fu s M hp, h, fun _ => ⟨_, _, rfl⟩⟩
theorem cd_X2_lostPages : Cond.code yX2_lostPages cX2_lostPages 3 (some .int) ∈ xG := (xg 1285 (by decide +kernel) (by decide +kernel))
theorem pr_X2_lostPages : (∀ e ∈ pX2_lostPages, xrow cX2_lostPages 3 kdX2 flX2 0 false RX2 e) ∧ xnext pX2_lostPages = true := xrows (by decide +kernel)
set_option maxRecDepth 100000 in
theorem wx_X2_lostPages_15 (X : xCtx p R S0 m ag c0 D cA A0 sA 3 cX2_lostPages RX2 (.code yX2_lostPages cX2_lostPages 3 (some .int) :: xG) 0 0) (hi : meth.name = yX2_lostPages.name) (hroom : 7 + 2 ≤ R.frames ∧ 60 * (7 + 2) ≤ R.locals) {rr : Int32 × xM} (hE : xEnd l D cA sA cX2_lostPages 3 (some .int) R 0 0 (some (.inl rr.1)) rr.2 p e S0 m ag below meth c0 A0 M0 ad0 Z) (fu : Nat) : ∀ (n : Nat) (s : Nat) (x1 : Int32) (x2 : Int32) (M : xM), L_X2_lostPages_15 fu n s x1 x2 M = some rr → xWx p l e R S0 m ag below meth c0 D cA A0 sA M0 ad0 3 Z 0 0 15 0 0 [(0, .inr (.inr (2, some s))), (1, .inl x1), (2, .inl x2)] [] M := by
  intro n
  induction n with
  | zero => intro s x1 x2 M h; cases h
  | succ n ih =>
    intro s x1 x2 M h
    rw [← q_X2_lostPages_15 fu n s x1 x2 M] at h
    have hT : ∀ w ∈ xG, w ∈ (Cond.code yX2_lostPages cX2_lostPages 3 (some .int) :: xG) := fun w hw => List.mem_cons_of_mem _ hw
    refine xrun_sound (nst := 0) (isInit := false) (kd := kdX2) X (xcls_mono hT xclsG) (xpool_mono hT plX2) (fun z => by cases z) (fun idx v hf => xkoE_mono hT (koX2_ok _ (xfind_mem hf))) (xents (ca := _) ?_) (endI hE).1 (endI hE).2 (xcuts (cu := _) ?_) pr_X2_lostPages.1 pr_X2_lostPages.2 _ _ _ _ _ _ _ _ (xat_ok pr_X2_lostPages.1 pr_X2_lostPages.2).1 (xat_ok pr_X2_lostPages.1 pr_X2_lostPages.2).2.1 (xat_ok pr_X2_lostPages.1 pr_X2_lostPages.2).2.2 h
    · exact (fun _ h => nomatch h)
    · refine (List.forall_mem_cons.mpr ⟨?_, (fun _ h => nomatch h)⟩)
      · intro bc bs ls st M h
        replace h := xz_some h
        obtain ⟨rfl, rfl, h⟩ := h
        replace h := lR_some h
        obtain ⟨o, e0, h⟩ := h
        replace h := bd_some h
        obtain ⟨s', rfl, h⟩ := h
        replace h := lI_some h
        obtain ⟨x1', e1, h⟩ := h
        replace h := lI_some h
        obtain ⟨x2', e2, h⟩ := h
        replace h := xe_some h
        obtain ⟨rfl, h⟩ := h
        exact xWx_ls (ih s' x1' x2' M h) (List.forall_mem_cons.mpr ⟨e0, (List.forall_mem_cons.mpr ⟨e1, (List.forall_mem_cons.mpr ⟨e2, (fun _ h => nomatch h)⟩)⟩)⟩)

set_option maxRecDepth 100000 in
theorem wx_X2_lostPages (X : xCtx p R S0 m ag c0 D cA A0 sA 3 cX2_lostPages RX2 (.code yX2_lostPages cX2_lostPages 3 (some .int) :: xG) 0 0) (hi : meth.name = yX2_lostPages.name) (hroom : 7 + 2 ≤ R.frames ∧ 60 * (7 + 2) ≤ R.locals) {rr : Int32 × xM} (hE : xEnd l D cA sA cX2_lostPages 3 (some .int) R 0 0 (some (.inl rr.1)) rr.2 p e S0 m ag below meth c0 A0 M0 ad0 Z) (fu : Nat) (s : Nat) (M : xM) (h : F_X2_lostPages fu s M = some rr) : xWx p l e R S0 m ag below meth c0 D cA A0 sA M0 ad0 3 Z 0 0 0 0 0 [(0, .inr (.inr (2, some s)))] [] M := by
  rw [← q_X2_lostPages fu s M] at h
  have hT : ∀ w ∈ xG, w ∈ (Cond.code yX2_lostPages cX2_lostPages 3 (some .int) :: xG) := fun w hw => List.mem_cons_of_mem _ hw
  refine xrun_sound (nst := 0) (isInit := false) (kd := kdX2) X (xcls_mono hT xclsG) (xpool_mono hT plX2) (fun z => by cases z) (fun idx v hf => xkoE_mono hT (koX2_ok _ (xfind_mem hf))) (xents (ca := _) ?_) (endI hE).1 (endI hE).2 (xcuts (cu := _) ?_) pr_X2_lostPages.1 pr_X2_lostPages.2 _ _ _ _ _ _ _ _ (xat_ok pr_X2_lostPages.1 pr_X2_lostPages.2).1 (xat_ok pr_X2_lostPages.1 pr_X2_lostPages.2).2.1 (xat_ok pr_X2_lostPages.1 pr_X2_lostPages.2).2.2 h
  · exact (List.forall_mem_cons.mpr ⟨(xent_met X (ci := 4) hT cd_X4_find lk_X2_106 rfl (by decide) rfl (by decide +kernel) (fun z => absurd z (by decide)) (hw_X4_find l D cA sA fu 0) (fun _ => ⟨by decide, fun _ => ⟨TX4, 4, rfl⟩⟩) (by constructor <;> omega) (by decide)), (fun _ h => nomatch h)⟩)
  · refine (List.forall_mem_cons.mpr ⟨?_, (fun _ h => nomatch h)⟩)
    · intro bc bs ls st M h
      replace h := xz_some h
      obtain ⟨rfl, rfl, h⟩ := h
      replace h := lR_some h
      obtain ⟨o, e0, h⟩ := h
      replace h := bd_some h
      obtain ⟨s', rfl, h⟩ := h
      replace h := lI_some h
      obtain ⟨x1', e1, h⟩ := h
      replace h := lI_some h
      obtain ⟨x2', e2, h⟩ := h
      replace h := xe_some h
      obtain ⟨rfl, h⟩ := h
      exact xWx_ls (wx_X2_lostPages_15 X hi hroom hE fu fu s' x1' x2' M h) (List.forall_mem_cons.mpr ⟨e0, (List.forall_mem_cons.mpr ⟨e1, (List.forall_mem_cons.mpr ⟨e2, (fun _ h => nomatch h)⟩)⟩)⟩)

theorem ok_X2_lostPages (l : Launch) (D : va_G) (cA : Nat → ClassId) (sA : Nat → Nat) (fu : Nat) (s : Nat) (M : xM) {rr : Int32 × xM} (h : F_X2_lostPages fu s M = some rr) : xMet l D cA sA yX2_lostPages cX2_lostPages 3 (some .int) xG (7 + 1) 0 0 [.inr (.inr (2, some s))] M (some (.inl rr.1)) rr.2 :=
  xmet_of (by decide +kernel) (Nat.le_of_ble_eq_true rfl) (fun p e s1 m ag below meth c0 A0 ad0 Z X hn hE => wx_X2_lostPages X hn ⟨Nat.le_refl _, Nat.le_refl _⟩ hE fu s M h)
theorem hw_X2_lostPages (l : Launch) (D : va_G) (cA : Nat → ClassId) (sA : Nat → Nat) (fu : Nat) {ρ : Type} {r0 : ρ} (kd1 : Nat) : ∀ (as : List xV) (M : xM) (k : Option xV → xM → Option ρ), w_X2_lostPages fu as M k = some r0 → ∃ v M', xMet l D cA sA yX2_lostPages cX2_lostPages 3 (some .int) xG (7 + 1) 0 0 as M v M' ∧ k v M' = some r0 ∧ (kd1 ≠ 2 → ∃ a as', as = .inr (.inr (2, some a)) :: as') := by
  intro as M k h
  unfold w_X2_lostPages at h
  replace h := pR_some h
  obtain ⟨o, as1, rfl, h⟩ := h
  replace h := bd_some h
  obtain ⟨s, rfl, h⟩ := h
  replace h := xe_some h
  obtain ⟨rfl, h⟩ := h
  obtain ⟨p1, hp, h⟩ := Option.bind_eq_some_iff.mp h
  exact ⟨_, _, ok_X2_lostPages l D cA sA fu s M hp, h, fun _ => ⟨_, _, rfl⟩⟩
theorem lk_X11_263 : xLink xG RX11 263 0 yX2_lostPages 0 := ⟨Or.inl (xg 1282 (by decide +kernel) (by decide +kernel)), (xg 1283 (by decide +kernel) (by decide +kernel)), (xg 1284 (by decide +kernel) (by decide +kernel)), (xg 134 (by decide +kernel) (by decide +kernel)), ⟨2, by decide, TX2, 16, rfl⟩⟩
theorem cd_X11_loses : Cond.code yX11_loses cX11_loses 1 (some .int) ∈ xG := (xg 1281 (by decide +kernel) (by decide +kernel))
theorem pr_X11_loses : (∀ e ∈ pX11_loses, xrow cX11_loses 1 kdX11 flX11 0 false RX11 e) ∧ xnext pX11_loses = true := xrows (by decide +kernel)
set_option maxRecDepth 100000 in
theorem wx_X11_loses (X : xCtx p R S0 m ag c0 D cA A0 sA 1 cX11_loses RX11 (.code yX11_loses cX11_loses 1 (some .int) :: xG) 0 0) (hi : meth.name = yX11_loses.name) (hroom : 8 + 2 ≤ R.frames ∧ 60 * (8 + 2) ≤ R.locals) {rr : Int32 × xM} (hE : xEnd l D cA sA cX11_loses 1 (some .int) R 0 0 (some (.inl rr.1)) rr.2 p e S0 m ag below meth c0 A0 M0 ad0 Z) (fu : Nat) (s : Nat) (M : xM) (h : F_X11_loses fu s M = some rr) : xWx p l e R S0 m ag below meth c0 D cA A0 sA M0 ad0 1 Z 0 0 0 0 0 [(0, .inr (.inr (11, some s)))] [] M := by
  rw [← q_X11_loses fu s M] at h
  have hT : ∀ w ∈ xG, w ∈ (Cond.code yX11_loses cX11_loses 1 (some .int) :: xG) := fun w hw => List.mem_cons_of_mem _ hw
  refine xrun_sound (nst := 0) (isInit := false) (kd := kdX11) X (xcls_mono hT xclsG) (xpool_mono hT plX11) (fun z => by cases z) (fun idx v hf => xkoE_mono hT (koX11_ok _ (xfind_mem hf))) (xents (ca := _) ?_) (endI hE).1 (endI hE).2 (xcuts (cu := _) ?_) pr_X11_loses.1 pr_X11_loses.2 _ _ _ _ _ _ _ _ (xat_ok pr_X11_loses.1 pr_X11_loses.2).1 (xat_ok pr_X11_loses.1 pr_X11_loses.2).2.1 (xat_ok pr_X11_loses.1 pr_X11_loses.2).2.2 h
  · exact (List.forall_mem_cons.mpr ⟨(xent_met X (ci := 2) hT cd_X2_lostPages lk_X11_263 rfl (by decide) rfl (by decide +kernel) (fun z => absurd z (by decide)) (hw_X2_lostPages l D cA sA fu 0) (fun _ => ⟨by decide, fun _ => ⟨TX2, 16, rfl⟩⟩) (by constructor <;> omega) (by decide)), (fun _ h => nomatch h)⟩)
  · exact (fun _ h => nomatch h)

theorem ok_X11_loses (l : Launch) (D : va_G) (cA : Nat → ClassId) (sA : Nat → Nat) (fu : Nat) (s : Nat) (M : xM) {rr : Int32 × xM} (h : F_X11_loses fu s M = some rr) : xMet l D cA sA yX11_loses cX11_loses 1 (some .int) xG (8 + 1) 0 0 [.inr (.inr (11, some s))] M (some (.inl rr.1)) rr.2 :=
  xmet_of (by decide +kernel) (Nat.le_of_ble_eq_true rfl) (fun p e s1 m ag below meth c0 A0 ad0 Z X hn hE => wx_X11_loses X hn ⟨Nat.le_refl _, Nat.le_refl _⟩ hE fu s M h)
theorem hw_X11_loses (l : Launch) (D : va_G) (cA : Nat → ClassId) (sA : Nat → Nat) (fu : Nat) {ρ : Type} {r0 : ρ} (kd1 : Nat) : ∀ (as : List xV) (M : xM) (k : Option xV → xM → Option ρ), w_X11_loses fu as M k = some r0 → ∃ v M', xMet l D cA sA yX11_loses cX11_loses 1 (some .int) xG (8 + 1) 0 0 as M v M' ∧ k v M' = some r0 ∧ (kd1 ≠ 2 → ∃ a as', as = .inr (.inr (11, some a)) :: as') := by
  intro as M k h
  unfold w_X11_loses at h
  replace h := pR_some h
  obtain ⟨o, as1, rfl, h⟩ := h
  replace h := bd_some h
  obtain ⟨s, rfl, h⟩ := h
  replace h := xe_some h
  obtain ⟨rfl, h⟩ := h
  obtain ⟨p1, hp, h⟩ := Option.bind_eq_some_iff.mp h
  exact ⟨_, _, ok_X11_loses l D cA sA fu s M hp, h, fun _ => ⟨_, _, rfl⟩⟩
theorem cd_X1_copyFrom : Cond.code yX1_copyFrom cX1_copyFrom 2 none ∈ xG := (xg 1423 (by decide +kernel) (by decide +kernel))
theorem pr_X1_copyFrom : (∀ e ∈ pX1_copyFrom, xrow cX1_copyFrom 2 kdX1 flX1 0 false RX1 e) ∧ xnext pX1_copyFrom = true := xrows (by decide +kernel)
set_option maxRecDepth 100000 in
theorem wx_X1_copyFrom (X : xCtx p R S0 m ag c0 D cA A0 sA 2 cX1_copyFrom RX1 (.code yX1_copyFrom cX1_copyFrom 2 none :: xG) 0 0) (hi : meth.name = yX1_copyFrom.name) (hroom : 0 + 2 ≤ R.frames ∧ 60 * (0 + 2) ≤ R.locals) {rr : xM} (hE : xEnd l D cA sA cX1_copyFrom 2 none R 0 0 none rr p e S0 m ag below meth c0 A0 M0 ad0 Z) (fu : Nat) (s : Nat) (x1 : Option Nat) (M : xM) (h : F_X1_copyFrom fu s x1 M = some rr) : xWx p l e R S0 m ag below meth c0 D cA A0 sA M0 ad0 2 Z 0 0 0 0 0 [(0, .inr (.inr (1, some s))), (1, .inr (.inr (1, x1)))] [] M := by
  rw [← q_X1_copyFrom fu s x1 M] at h
  have hT : ∀ w ∈ xG, w ∈ (Cond.code yX1_copyFrom cX1_copyFrom 2 none :: xG) := fun w hw => List.mem_cons_of_mem _ hw
  refine xrun_sound (nst := 0) (isInit := false) (kd := kdX1) X (xcls_mono hT xclsG) (xpool_mono hT plX1) (fun z => by cases z) (fun idx v hf => xkoE_mono hT (koX1_ok _ (xfind_mem hf))) (xents (ca := _) ?_) (endV hE).1 (endV hE).2 (xcuts (cu := _) ?_) pr_X1_copyFrom.1 pr_X1_copyFrom.2 _ _ _ _ _ _ _ _ (xat_ok pr_X1_copyFrom.1 pr_X1_copyFrom.2).1 (xat_ok pr_X1_copyFrom.1 pr_X1_copyFrom.2).2.1 (xat_ok pr_X1_copyFrom.1 pr_X1_copyFrom.2).2.2 h
  · exact (List.forall_mem_cons.mpr ⟨(xent_arraycopy X hT (xg 1424 (by decide +kernel) (by decide +kernel)) (xg 1063 (by decide +kernel) (by decide +kernel)) (xg 1062 (by decide +kernel) (by decide +kernel)) (xg 147 (by decide +kernel) (by decide +kernel)) rfl), (fun _ h => nomatch h)⟩)
  · exact (fun _ h => nomatch h)

theorem ok_X1_copyFrom (l : Launch) (D : va_G) (cA : Nat → ClassId) (sA : Nat → Nat) (fu : Nat) (s : Nat) (x1 : Option Nat) (M : xM) {rr : xM} (h : F_X1_copyFrom fu s x1 M = some rr) : xMet l D cA sA yX1_copyFrom cX1_copyFrom 2 none xG (0 + 1) 0 0 [.inr (.inr (1, some s)), .inr (.inr (1, x1))] M none rr :=
  xmet_of (by decide +kernel) (Nat.le_of_ble_eq_true rfl) (fun p e s1 m ag below meth c0 A0 ad0 Z X hn hE => wx_X1_copyFrom X hn ⟨Nat.le_refl _, Nat.le_refl _⟩ hE fu s x1 M h)
theorem hw_X1_copyFrom (l : Launch) (D : va_G) (cA : Nat → ClassId) (sA : Nat → Nat) (fu : Nat) {ρ : Type} {r0 : ρ} (kd1 : Nat) : ∀ (as : List xV) (M : xM) (k : Option xV → xM → Option ρ), w_X1_copyFrom fu as M k = some r0 → ∃ v M', xMet l D cA sA yX1_copyFrom cX1_copyFrom 2 none xG (0 + 1) 0 0 as M v M' ∧ k v M' = some r0 ∧ (kd1 ≠ 2 → ∃ a as', as = .inr (.inr (1, some a)) :: as') := by
  intro as M k h
  unfold w_X1_copyFrom at h
  replace h := pR_some h
  obtain ⟨o, as1, rfl, h⟩ := h
  replace h := bd_some h
  obtain ⟨s, rfl, h⟩ := h
  replace h := pR_some h
  obtain ⟨x1, as1, rfl, h⟩ := h
  replace h := xe_some h
  obtain ⟨rfl, h⟩ := h
  obtain ⟨p1, hp, h⟩ := Option.bind_eq_some_iff.mp h
  exact ⟨_, _, ok_X1_copyFrom l D cA sA fu s x1 M hp, h, fun _ => ⟨_, _, rfl⟩⟩
theorem lk_X11_325 : xLink xG RX11 325 0 yX1_copyFrom 1 := ⟨Or.inl (xg 1420 (by decide +kernel) (by decide +kernel)), (xg 1421 (by decide +kernel) (by decide +kernel)), (xg 1422 (by decide +kernel) (by decide +kernel)), (xg 137 (by decide +kernel) (by decide +kernel)), ⟨1, by decide, TX1, 4, rfl⟩⟩
theorem cd_X11_mark : Cond.code yX11_mark cX11_mark 3 (some .boolean) ∈ xG := (xg 1419 (by decide +kernel) (by decide +kernel))
theorem pr_X11_mark : (∀ e ∈ pX11_mark, xrow cX11_mark 3 kdX11 flX11 0 false RX11 e) ∧ xnext pX11_mark = true := xrows (by decide +kernel)
set_option maxRecDepth 100000 in
theorem wx_X11_mark (X : xCtx p R S0 m ag c0 D cA A0 sA 3 cX11_mark RX11 (.code yX11_mark cX11_mark 3 (some .boolean) :: xG) 0 0) (hi : meth.name = yX11_mark.name) (hroom : 2 + 2 ≤ R.frames ∧ 60 * (2 + 2) ≤ R.locals) {rr : Int32 × xM} (hE : xEnd l D cA sA cX11_mark 3 (some .boolean) R 0 0 (some (.inl rr.1)) rr.2 p e S0 m ag below meth c0 A0 M0 ad0 Z) (fu : Nat) (s : Nat) (x1 : Int32) (x2 : Int32) (M : xM) (h : F_X11_mark fu s x1 x2 M = some rr) : xWx p l e R S0 m ag below meth c0 D cA A0 sA M0 ad0 3 Z 0 0 0 0 0 [(0, .inr (.inr (11, some s))), (1, .inl x1), (2, .inl x2)] [] M := by
  rw [← q_X11_mark fu s x1 x2 M] at h
  have hT : ∀ w ∈ xG, w ∈ (Cond.code yX11_mark cX11_mark 3 (some .boolean) :: xG) := fun w hw => List.mem_cons_of_mem _ hw
  refine xrun_sound (nst := 0) (isInit := false) (kd := kdX11) X (xcls_mono hT xclsG) (xpool_mono hT plX11) (fun z => by cases z) (fun idx v hf => xkoE_mono hT (koX11_ok _ (xfind_mem hf))) (xents (ca := _) ?_) (endZ hE).1 (endZ hE).2 (xcuts (cu := _) ?_) pr_X11_mark.1 pr_X11_mark.2 _ _ _ _ _ _ _ _ (xat_ok pr_X11_mark.1 pr_X11_mark.2).1 (xat_ok pr_X11_mark.1 pr_X11_mark.2).2.1 (xat_ok pr_X11_mark.1 pr_X11_mark.2).2.2 h
  · exact (List.forall_mem_cons.mpr ⟨(xent_met X (ci := 2) hT cd_X2_copyFrom lk_X11_249 rfl (by decide) rfl (by decide +kernel) (fun z => absurd z (by decide)) (hw_X2_copyFrom l D cA sA fu 0) (fun _ => ⟨by decide, fun _ => ⟨TX2, 16, rfl⟩⟩) (by constructor <;> omega) (by decide)), (List.forall_mem_cons.mpr ⟨(xent_met X (ci := 1) hT cd_X1_copyFrom lk_X11_325 rfl (by decide) rfl (by decide +kernel) (fun z => absurd z (by decide)) (hw_X1_copyFrom l D cA sA fu 0) (fun _ => ⟨by decide, fun _ => ⟨TX1, 4, rfl⟩⟩) (by constructor <;> omega) (by decide)), (fun _ h => nomatch h)⟩)⟩)
  · exact (fun _ h => nomatch h)

theorem ok_X11_mark (l : Launch) (D : va_G) (cA : Nat → ClassId) (sA : Nat → Nat) (fu : Nat) (s : Nat) (x1 : Int32) (x2 : Int32) (M : xM) {rr : Int32 × xM} (h : F_X11_mark fu s x1 x2 M = some rr) : xMet l D cA sA yX11_mark cX11_mark 3 (some .boolean) xG (2 + 1) 0 0 [.inr (.inr (11, some s)), .inl x1, .inl x2] M (some (.inl rr.1)) rr.2 :=
  xmet_of (by decide +kernel) (Nat.le_of_ble_eq_true rfl) (fun p e s1 m ag below meth c0 A0 ad0 Z X hn hE => wx_X11_mark X hn ⟨Nat.le_refl _, Nat.le_refl _⟩ hE fu s x1 x2 M h)
theorem hw_X11_mark (l : Launch) (D : va_G) (cA : Nat → ClassId) (sA : Nat → Nat) (fu : Nat) {ρ : Type} {r0 : ρ} (kd1 : Nat) : ∀ (as : List xV) (M : xM) (k : Option xV → xM → Option ρ), w_X11_mark fu as M k = some r0 → ∃ v M', xMet l D cA sA yX11_mark cX11_mark 3 (some .boolean) xG (2 + 1) 0 0 as M v M' ∧ k v M' = some r0 ∧ (kd1 ≠ 2 → ∃ a as', as = .inr (.inr (11, some a)) :: as') := by
  intro as M k h
  unfold w_X11_mark at h
  replace h := pR_some h
  obtain ⟨o, as1, rfl, h⟩ := h
  replace h := bd_some h
  obtain ⟨s, rfl, h⟩ := h
  replace h := pI_some h
  obtain ⟨x1, as1, rfl, h⟩ := h
  replace h := pI_some h
  obtain ⟨x2, as1, rfl, h⟩ := h
  replace h := xe_some h
  obtain ⟨rfl, h⟩ := h
  obtain ⟨p1, hp, h⟩ := Option.bind_eq_some_iff.mp h
  exact ⟨_, _, ok_X11_mark l D cA sA fu s x1 x2 M hp, h, fun _ => ⟨_, _, rfl⟩⟩
theorem lk_X11_220 : xLink xG RX11 220 0 yX2_mayWrite 2 := ⟨Or.inl (xg 1224 (by decide +kernel) (by decide +kernel)), (xg 986 (by decide +kernel) (by decide +kernel)), (xg 987 (by decide +kernel) (by decide +kernel)), (xg 134 (by decide +kernel) (by decide +kernel)), ⟨2, by decide, TX2, 16, rfl⟩⟩
theorem lk_X11_223 : xLink xG RX11 223 0 yX2_hasRoomToWrite 2 := ⟨Or.inl (xg 1225 (by decide +kernel) (by decide +kernel)), (xg 1074 (by decide +kernel) (by decide +kernel)), (xg 1075 (by decide +kernel) (by decide +kernel)), (xg 134 (by decide +kernel) (by decide +kernel)), ⟨2, by decide, TX2, 16, rfl⟩⟩
theorem cd_X11_may : Cond.code yX11_may cX11_may 3 (some .boolean) ∈ xG := (xg 1223 (by decide +kernel) (by decide +kernel))
theorem pr_X11_may : (∀ e ∈ pX11_may, xrow cX11_may 3 kdX11 flX11 0 false RX11 e) ∧ xnext pX11_may = true := xrows (by decide +kernel)
set_option maxRecDepth 100000 in
theorem wx_X11_may (X : xCtx p R S0 m ag c0 D cA A0 sA 3 cX11_may RX11 (.code yX11_may cX11_may 3 (some .boolean) :: xG) 0 0) (hi : meth.name = yX11_may.name) (hroom : 3 + 2 ≤ R.frames ∧ 60 * (3 + 2) ≤ R.locals) {rr : Int32 × xM} (hE : xEnd l D cA sA cX11_may 3 (some .boolean) R 0 0 (some (.inl rr.1)) rr.2 p e S0 m ag below meth c0 A0 M0 ad0 Z) (fu : Nat) (s : Nat) (x1 : Int32) (x2 : Int32) (M : xM) (h : F_X11_may fu s x1 x2 M = some rr) : xWx p l e R S0 m ag below meth c0 D cA A0 sA M0 ad0 3 Z 0 0 0 0 0 [(0, .inr (.inr (11, some s))), (1, .inl x1), (2, .inl x2)] [] M := by
  rw [← q_X11_may fu s x1 x2 M] at h
  have hT : ∀ w ∈ xG, w ∈ (Cond.code yX11_may cX11_may 3 (some .boolean) :: xG) := fun w hw => List.mem_cons_of_mem _ hw
  refine xrun_sound (nst := 0) (isInit := false) (kd := kdX11) X (xcls_mono hT xclsG) (xpool_mono hT plX11) (fun z => by cases z) (fun idx v hf => xkoE_mono hT (koX11_ok _ (xfind_mem hf))) (xents (ca := _) ?_) (endZ hE).1 (endZ hE).2 (xcuts (cu := _) ?_) pr_X11_may.1 pr_X11_may.2 _ _ _ _ _ _ _ _ (xat_ok pr_X11_may.1 pr_X11_may.2).1 (xat_ok pr_X11_may.1 pr_X11_may.2).2.1 (xat_ok pr_X11_may.1 pr_X11_may.2).2.2 h
  · exact (List.forall_mem_cons.mpr ⟨(xent_met X (ci := 2) hT cd_X2_mayWrite lk_X11_220 rfl (by decide) rfl (by decide +kernel) (fun z => absurd z (by decide)) (hw_X2_mayWrite l D cA sA fu 0) (fun _ => ⟨by decide, fun _ => ⟨TX2, 16, rfl⟩⟩) (by constructor <;> omega) (by decide)), (List.forall_mem_cons.mpr ⟨(xent_met X (ci := 2) hT cd_X2_hasRoomToWrite lk_X11_223 rfl (by decide) rfl (by decide +kernel) (fun z => absurd z (by decide)) (hw_X2_hasRoomToWrite l D cA sA fu 0) (fun _ => ⟨by decide, fun _ => ⟨TX2, 16, rfl⟩⟩) (by constructor <;> omega) (by decide)), (fun _ h => nomatch h)⟩)⟩)
  · exact (fun _ h => nomatch h)

theorem ok_X11_may (l : Launch) (D : va_G) (cA : Nat → ClassId) (sA : Nat → Nat) (fu : Nat) (s : Nat) (x1 : Int32) (x2 : Int32) (M : xM) {rr : Int32 × xM} (h : F_X11_may fu s x1 x2 M = some rr) : xMet l D cA sA yX11_may cX11_may 3 (some .boolean) xG (3 + 1) 0 0 [.inr (.inr (11, some s)), .inl x1, .inl x2] M (some (.inl rr.1)) rr.2 :=
  xmet_of (by decide +kernel) (Nat.le_of_ble_eq_true rfl) (fun p e s1 m ag below meth c0 A0 ad0 Z X hn hE => wx_X11_may X hn ⟨Nat.le_refl _, Nat.le_refl _⟩ hE fu s x1 x2 M h)
theorem hw_X11_may (l : Launch) (D : va_G) (cA : Nat → ClassId) (sA : Nat → Nat) (fu : Nat) {ρ : Type} {r0 : ρ} (kd1 : Nat) : ∀ (as : List xV) (M : xM) (k : Option xV → xM → Option ρ), w_X11_may fu as M k = some r0 → ∃ v M', xMet l D cA sA yX11_may cX11_may 3 (some .boolean) xG (3 + 1) 0 0 as M v M' ∧ k v M' = some r0 ∧ (kd1 ≠ 2 → ∃ a as', as = .inr (.inr (11, some a)) :: as') := by
  intro as M k h
  unfold w_X11_may at h
  replace h := pR_some h
  obtain ⟨o, as1, rfl, h⟩ := h
  replace h := bd_some h
  obtain ⟨s, rfl, h⟩ := h
  replace h := pI_some h
  obtain ⟨x1, as1, rfl, h⟩ := h
  replace h := pI_some h
  obtain ⟨x2, as1, rfl, h⟩ := h
  replace h := xe_some h
  obtain ⟨rfl, h⟩ := h
  obtain ⟨p1, hp, h⟩ := Option.bind_eq_some_iff.mp h
  exact ⟨_, _, ok_X11_may l D cA sA fu s x1 x2 M hp, h, fun _ => ⟨_, _, rfl⟩⟩
theorem lk_X2_258 : xLink xG RX2 258 0 yX0_greatestSeq 0 := ⟨Or.inl (xg 1167 (by decide +kernel) (by decide +kernel)), (xg 1168 (by decide +kernel) (by decide +kernel)), (xg 1169 (by decide +kernel) (by decide +kernel)), (xg 135 (by decide +kernel) (by decide +kernel)), ⟨0, by decide, TX0, 16, rfl⟩⟩
theorem lk_X2_261 : xLink xG RX2 261 0 yX0_begunBlock 0 := ⟨Or.inl (xg 1171 (by decide +kernel) (by decide +kernel)), (xg 1172 (by decide +kernel) (by decide +kernel)), (xg 1173 (by decide +kernel) (by decide +kernel)), (xg 135 (by decide +kernel) (by decide +kernel)), ⟨0, by decide, TX0, 16, rfl⟩⟩
theorem cd_X2_mountAgain : Cond.code yX2_mountAgain cX2_mountAgain 1 (some .int) ∈ xG := (xg 1165 (by decide +kernel) (by decide +kernel))
theorem pr_X2_mountAgain : (∀ e ∈ pX2_mountAgain, xrow cX2_mountAgain 1 kdX2 flX2 0 false RX2 e) ∧ xnext pX2_mountAgain = true := xrows (by decide +kernel)
set_option maxRecDepth 100000 in
theorem wx_X2_mountAgain (X : xCtx p R S0 m ag c0 D cA A0 sA 1 cX2_mountAgain RX2 (.code yX2_mountAgain cX2_mountAgain 1 (some .int) :: xG) 0 0) (hi : meth.name = yX2_mountAgain.name) (hroom : 7 + 2 ≤ R.frames ∧ 60 * (7 + 2) ≤ R.locals) {rr : Int32 × xM} (hE : xEnd l D cA sA cX2_mountAgain 1 (some .int) R 0 0 (some (.inl rr.1)) rr.2 p e S0 m ag below meth c0 A0 M0 ad0 Z) (fu : Nat) (s : Nat) (M : xM) (h : F_X2_mountAgain fu s M = some rr) : xWx p l e R S0 m ag below meth c0 D cA A0 sA M0 ad0 1 Z 0 0 0 0 0 [(0, .inr (.inr (2, some s)))] [] M := by
  rw [← q_X2_mountAgain fu s M] at h
  have hT : ∀ w ∈ xG, w ∈ (Cond.code yX2_mountAgain cX2_mountAgain 1 (some .int) :: xG) := fun w hw => List.mem_cons_of_mem _ hw
  refine xrun_sound (nst := 0) (isInit := false) (kd := kdX2) X (xcls_mono hT xclsG) (xpool_mono hT plX2) (fun z => by cases z) (fun idx v hf => xkoE_mono hT (koX2_ok _ (xfind_mem hf))) (xents (ca := _) ?_) (endI hE).1 (endI hE).2 (xcuts (cu := _) ?_) pr_X2_mountAgain.1 pr_X2_mountAgain.2 _ _ _ _ _ _ _ _ (xat_ok pr_X2_mountAgain.1 pr_X2_mountAgain.2).1 (xat_ok pr_X2_mountAgain.1 pr_X2_mountAgain.2).2.1 (xat_ok pr_X2_mountAgain.1 pr_X2_mountAgain.2).2.2 h
  · exact (List.forall_mem_cons.mpr ⟨(xent_met X (ci := 2) hT cd_X2_forgetFiles lk_X2_65 rfl (by decide) rfl (by decide +kernel) (fun z => absurd z (by decide)) (hw_X2_forgetFiles l D cA sA fu 0) (fun _ => ⟨by decide, fun _ => ⟨TX2, 16, rfl⟩⟩) (by constructor <;> omega) (by decide)), (List.forall_mem_cons.mpr ⟨(xent_arraycopy X hT (xg 1166 (by decide +kernel) (by decide +kernel)) (xg 1063 (by decide +kernel) (by decide +kernel)) (xg 1062 (by decide +kernel) (by decide +kernel)) (xg 147 (by decide +kernel) (by decide +kernel)) rfl), (List.forall_mem_cons.mpr ⟨(xent_met X (ci := 4) hT cd_X4_find lk_X2_106 rfl (by decide) rfl (by decide +kernel) (fun z => absurd z (by decide)) (hw_X4_find l D cA sA fu 0) (fun _ => ⟨by decide, fun _ => ⟨TX4, 4, rfl⟩⟩) (by constructor <;> omega) (by decide)), (List.forall_mem_cons.mpr ⟨(xent_met X (ci := 2) hT cd_X2_survey lk_X2_174 rfl (by decide) rfl (by decide +kernel) (fun z => absurd z (by decide)) (hw_X2_survey l D cA sA fu 0) (fun _ => ⟨by decide, fun _ => ⟨TX2, 16, rfl⟩⟩) (by constructor <;> omega) (by decide)), (List.forall_mem_cons.mpr ⟨(xent_met X (ci := 0) hT cd_X0_greatestSeq lk_X2_258 rfl (by decide) rfl (by decide +kernel) (fun z => absurd z (by decide)) (hw_X0_greatestSeq l D cA sA fu 0) (fun _ => ⟨by decide, fun _ => ⟨TX0, 16, rfl⟩⟩) (by constructor <;> omega) (by decide)), (List.forall_mem_cons.mpr ⟨(xent_met X (ci := 0) hT cd_X0_begunBlock lk_X2_261 rfl (by decide) rfl (by decide +kernel) (fun z => absurd z (by decide)) (hw_X0_begunBlock l D cA sA fu 0) (fun _ => ⟨by decide, fun _ => ⟨TX0, 16, rfl⟩⟩) (by constructor <;> omega) (by decide)), (fun _ h => nomatch h)⟩)⟩)⟩)⟩)⟩)⟩)
  · exact (fun _ h => nomatch h)

theorem ok_X2_mountAgain (l : Launch) (D : va_G) (cA : Nat → ClassId) (sA : Nat → Nat) (fu : Nat) (s : Nat) (M : xM) {rr : Int32 × xM} (h : F_X2_mountAgain fu s M = some rr) : xMet l D cA sA yX2_mountAgain cX2_mountAgain 1 (some .int) xG (7 + 1) 0 0 [.inr (.inr (2, some s))] M (some (.inl rr.1)) rr.2 :=
  xmet_of (by decide +kernel) (Nat.le_of_ble_eq_true rfl) (fun p e s1 m ag below meth c0 A0 ad0 Z X hn hE => wx_X2_mountAgain X hn ⟨Nat.le_refl _, Nat.le_refl _⟩ hE fu s M h)
theorem hw_X2_mountAgain (l : Launch) (D : va_G) (cA : Nat → ClassId) (sA : Nat → Nat) (fu : Nat) {ρ : Type} {r0 : ρ} (kd1 : Nat) : ∀ (as : List xV) (M : xM) (k : Option xV → xM → Option ρ), w_X2_mountAgain fu as M k = some r0 → ∃ v M', xMet l D cA sA yX2_mountAgain cX2_mountAgain 1 (some .int) xG (7 + 1) 0 0 as M v M' ∧ k v M' = some r0 ∧ (kd1 ≠ 2 → ∃ a as', as = .inr (.inr (2, some a)) :: as') := by
  intro as M k h
  unfold w_X2_mountAgain at h
  replace h := pR_some h
  obtain ⟨o, as1, rfl, h⟩ := h
  replace h := bd_some h
  obtain ⟨s, rfl, h⟩ := h
  replace h := xe_some h
  obtain ⟨rfl, h⟩ := h
  obtain ⟨p1, hp, h⟩ := Option.bind_eq_some_iff.mp h
  exact ⟨_, _, ok_X2_mountAgain l D cA sA fu s M hp, h, fun _ => ⟨_, _, rfl⟩⟩
theorem lk_X11_204 : xLink xG RX11 204 0 yX2_mountAgain 0 := ⟨Or.inl (xg 1162 (by decide +kernel) (by decide +kernel)), (xg 1163 (by decide +kernel) (by decide +kernel)), (xg 1164 (by decide +kernel) (by decide +kernel)), (xg 134 (by decide +kernel) (by decide +kernel)), ⟨2, by decide, TX2, 16, rfl⟩⟩
theorem cd_X11_mount : Cond.code yX11_mount cX11_mount 1 (some .int) ∈ xG := (xg 1161 (by decide +kernel) (by decide +kernel))
theorem pr_X11_mount : (∀ e ∈ pX11_mount, xrow cX11_mount 1 kdX11 flX11 0 false RX11 e) ∧ xnext pX11_mount = true := xrows (by decide +kernel)
set_option maxRecDepth 100000 in
theorem wx_X11_mount (X : xCtx p R S0 m ag c0 D cA A0 sA 1 cX11_mount RX11 (.code yX11_mount cX11_mount 1 (some .int) :: xG) 0 0) (hi : meth.name = yX11_mount.name) (hroom : 8 + 2 ≤ R.frames ∧ 60 * (8 + 2) ≤ R.locals) {rr : Int32 × xM} (hE : xEnd l D cA sA cX11_mount 1 (some .int) R 0 0 (some (.inl rr.1)) rr.2 p e S0 m ag below meth c0 A0 M0 ad0 Z) (fu : Nat) (s : Nat) (M : xM) (h : F_X11_mount fu s M = some rr) : xWx p l e R S0 m ag below meth c0 D cA A0 sA M0 ad0 1 Z 0 0 0 0 0 [(0, .inr (.inr (11, some s)))] [] M := by
  rw [← q_X11_mount fu s M] at h
  have hT : ∀ w ∈ xG, w ∈ (Cond.code yX11_mount cX11_mount 1 (some .int) :: xG) := fun w hw => List.mem_cons_of_mem _ hw
  refine xrun_sound (nst := 0) (isInit := false) (kd := kdX11) X (xcls_mono hT xclsG) (xpool_mono hT plX11) (fun z => by cases z) (fun idx v hf => xkoE_mono hT (koX11_ok _ (xfind_mem hf))) (xents (ca := _) ?_) (endI hE).1 (endI hE).2 (xcuts (cu := _) ?_) pr_X11_mount.1 pr_X11_mount.2 _ _ _ _ _ _ _ _ (xat_ok pr_X11_mount.1 pr_X11_mount.2).1 (xat_ok pr_X11_mount.1 pr_X11_mount.2).2.1 (xat_ok pr_X11_mount.1 pr_X11_mount.2).2.2 h
  · exact (List.forall_mem_cons.mpr ⟨(xent_met X (ci := 2) hT cd_X2_mountAgain lk_X11_204 rfl (by decide) rfl (by decide +kernel) (fun z => absurd z (by decide)) (hw_X2_mountAgain l D cA sA fu 0) (fun _ => ⟨by decide, fun _ => ⟨TX2, 16, rfl⟩⟩) (by constructor <;> omega) (by decide)), (fun _ h => nomatch h)⟩)
  · exact (fun _ h => nomatch h)

theorem ok_X11_mount (l : Launch) (D : va_G) (cA : Nat → ClassId) (sA : Nat → Nat) (fu : Nat) (s : Nat) (M : xM) {rr : Int32 × xM} (h : F_X11_mount fu s M = some rr) : xMet l D cA sA yX11_mount cX11_mount 1 (some .int) xG (8 + 1) 0 0 [.inr (.inr (11, some s))] M (some (.inl rr.1)) rr.2 :=
  xmet_of (by decide +kernel) (Nat.le_of_ble_eq_true rfl) (fun p e s1 m ag below meth c0 A0 ad0 Z X hn hE => wx_X11_mount X hn ⟨Nat.le_refl _, Nat.le_refl _⟩ hE fu s M h)
theorem hw_X11_mount (l : Launch) (D : va_G) (cA : Nat → ClassId) (sA : Nat → Nat) (fu : Nat) {ρ : Type} {r0 : ρ} (kd1 : Nat) : ∀ (as : List xV) (M : xM) (k : Option xV → xM → Option ρ), w_X11_mount fu as M k = some r0 → ∃ v M', xMet l D cA sA yX11_mount cX11_mount 1 (some .int) xG (8 + 1) 0 0 as M v M' ∧ k v M' = some r0 ∧ (kd1 ≠ 2 → ∃ a as', as = .inr (.inr (11, some a)) :: as') := by
  intro as M k h
  unfold w_X11_mount at h
  replace h := pR_some h
  obtain ⟨o, as1, rfl, h⟩ := h
  replace h := bd_some h
  obtain ⟨s, rfl, h⟩ := h
  replace h := xe_some h
  obtain ⟨rfl, h⟩ := h
  obtain ⟨p1, hp, h⟩ := Option.bind_eq_some_iff.mp h
  exact ⟨_, _, ok_X11_mount l D cA sA fu s M hp, h, fun _ => ⟨_, _, rfl⟩⟩
theorem lk_X11_127 : xLink xG RX11 127 0 yX0_isSlot 1 := ⟨Or.inl (xg 912 (by decide +kernel) (by decide +kernel)), (xg 913 (by decide +kernel) (by decide +kernel)), (xg 914 (by decide +kernel) (by decide +kernel)), (xg 135 (by decide +kernel) (by decide +kernel)), ⟨0, by decide, TX0, 16, rfl⟩⟩
theorem lk_X11_269 : xLink xG RX11 269 0 yX2_slotOfLive 1 := ⟨Or.inl (xg 1298 (by decide +kernel) (by decide +kernel)), (xg 1299 (by decide +kernel) (by decide +kernel)), (xg 1300 (by decide +kernel) (by decide +kernel)), (xg 134 (by decide +kernel) (by decide +kernel)), ⟨2, by decide, TX2, 16, rfl⟩⟩
theorem cd_X11_oldest : Cond.code yX11_oldest cX11_oldest 2 (some .int) ∈ xG := (xg 1297 (by decide +kernel) (by decide +kernel))
theorem pr_X11_oldest : (∀ e ∈ pX11_oldest, xrow cX11_oldest 2 kdX11 flX11 0 false RX11 e) ∧ xnext pX11_oldest = true := xrows (by decide +kernel)
set_option maxRecDepth 100000 in
theorem wx_X11_oldest (X : xCtx p R S0 m ag c0 D cA A0 sA 2 cX11_oldest RX11 (.code yX11_oldest cX11_oldest 2 (some .int) :: xG) 0 0) (hi : meth.name = yX11_oldest.name) (hroom : 3 + 2 ≤ R.frames ∧ 60 * (3 + 2) ≤ R.locals) {rr : Int32 × xM} (hE : xEnd l D cA sA cX11_oldest 2 (some .int) R 0 0 (some (.inl rr.1)) rr.2 p e S0 m ag below meth c0 A0 M0 ad0 Z) (fu : Nat) (s : Nat) (M : xM) (h : F_X11_oldest fu s M = some rr) : xWx p l e R S0 m ag below meth c0 D cA A0 sA M0 ad0 2 Z 0 0 0 0 0 [(0, .inr (.inr (11, some s)))] [] M := by
  rw [← q_X11_oldest fu s M] at h
  have hT : ∀ w ∈ xG, w ∈ (Cond.code yX11_oldest cX11_oldest 2 (some .int) :: xG) := fun w hw => List.mem_cons_of_mem _ hw
  refine xrun_sound (nst := 0) (isInit := false) (kd := kdX11) X (xcls_mono hT xclsG) (xpool_mono hT plX11) (fun z => by cases z) (fun idx v hf => xkoE_mono hT (koX11_ok _ (xfind_mem hf))) (xents (ca := _) ?_) (endI hE).1 (endI hE).2 (xcuts (cu := _) ?_) pr_X11_oldest.1 pr_X11_oldest.2 _ _ _ _ _ _ _ _ (xat_ok pr_X11_oldest.1 pr_X11_oldest.2).1 (xat_ok pr_X11_oldest.1 pr_X11_oldest.2).2.1 (xat_ok pr_X11_oldest.1 pr_X11_oldest.2).2.2 h
  · exact (List.forall_mem_cons.mpr ⟨(xent_met X (ci := 0) hT cd_X0_isSlot lk_X11_127 rfl (by decide) rfl (by decide +kernel) (fun z => absurd z (by decide)) (hw_X0_isSlot l D cA sA fu 0) (fun _ => ⟨by decide, fun _ => ⟨TX0, 16, rfl⟩⟩) (by constructor <;> omega) (by decide)), (List.forall_mem_cons.mpr ⟨(xent_met X (ci := 2) hT cd_X2_slotOfLive lk_X11_269 rfl (by decide) rfl (by decide +kernel) (fun z => absurd z (by decide)) (hw_X2_slotOfLive l D cA sA fu 0) (fun _ => ⟨by decide, fun _ => ⟨TX2, 16, rfl⟩⟩) (by constructor <;> omega) (by decide)), (fun _ h => nomatch h)⟩)⟩)
  · exact (fun _ h => nomatch h)

theorem ok_X11_oldest (l : Launch) (D : va_G) (cA : Nat → ClassId) (sA : Nat → Nat) (fu : Nat) (s : Nat) (M : xM) {rr : Int32 × xM} (h : F_X11_oldest fu s M = some rr) : xMet l D cA sA yX11_oldest cX11_oldest 2 (some .int) xG (3 + 1) 0 0 [.inr (.inr (11, some s))] M (some (.inl rr.1)) rr.2 :=
  xmet_of (by decide +kernel) (Nat.le_of_ble_eq_true rfl) (fun p e s1 m ag below meth c0 A0 ad0 Z X hn hE => wx_X11_oldest X hn ⟨Nat.le_refl _, Nat.le_refl _⟩ hE fu s M h)
theorem hw_X11_oldest (l : Launch) (D : va_G) (cA : Nat → ClassId) (sA : Nat → Nat) (fu : Nat) {ρ : Type} {r0 : ρ} (kd1 : Nat) : ∀ (as : List xV) (M : xM) (k : Option xV → xM → Option ρ), w_X11_oldest fu as M k = some r0 → ∃ v M', xMet l D cA sA yX11_oldest cX11_oldest 2 (some .int) xG (3 + 1) 0 0 as M v M' ∧ k v M' = some r0 ∧ (kd1 ≠ 2 → ∃ a as', as = .inr (.inr (11, some a)) :: as') := by
  intro as M k h
  unfold w_X11_oldest at h
  replace h := pR_some h
  obtain ⟨o, as1, rfl, h⟩ := h
  replace h := bd_some h
  obtain ⟨s, rfl, h⟩ := h
  replace h := xe_some h
  obtain ⟨rfl, h⟩ := h
  obtain ⟨p1, hp, h⟩ := Option.bind_eq_some_iff.mp h
  exact ⟨_, _, ok_X11_oldest l D cA sA fu s M hp, h, fun _ => ⟨_, _, rfl⟩⟩
theorem lk_X11_188 : xLink xG RX11 188 0 yX2_openFile 1 := ⟨Or.inl (xg 1128 (by decide +kernel) (by decide +kernel)), (xg 1129 (by decide +kernel) (by decide +kernel)), (xg 1130 (by decide +kernel) (by decide +kernel)), (xg 134 (by decide +kernel) (by decide +kernel)), ⟨2, by decide, TX2, 16, rfl⟩⟩
theorem cd_X11_open : Cond.code yX11_open cX11_open 2 (some .boolean) ∈ xG := (xg 1127 (by decide +kernel) (by decide +kernel))
theorem pr_X11_open : (∀ e ∈ pX11_open, xrow cX11_open 2 kdX11 flX11 0 false RX11 e) ∧ xnext pX11_open = true := xrows (by decide +kernel)
set_option maxRecDepth 100000 in
theorem wx_X11_open (X : xCtx p R S0 m ag c0 D cA A0 sA 2 cX11_open RX11 (.code yX11_open cX11_open 2 (some .boolean) :: xG) 0 0) (hi : meth.name = yX11_open.name) (hroom : 2 + 2 ≤ R.frames ∧ 60 * (2 + 2) ≤ R.locals) {rr : Int32 × xM} (hE : xEnd l D cA sA cX11_open 2 (some .boolean) R 0 0 (some (.inl rr.1)) rr.2 p e S0 m ag below meth c0 A0 M0 ad0 Z) (fu : Nat) (s : Nat) (x1 : Int32) (M : xM) (h : F_X11_open fu s x1 M = some rr) : xWx p l e R S0 m ag below meth c0 D cA A0 sA M0 ad0 2 Z 0 0 0 0 0 [(0, .inr (.inr (11, some s))), (1, .inl x1)] [] M := by
  rw [← q_X11_open fu s x1 M] at h
  have hT : ∀ w ∈ xG, w ∈ (Cond.code yX11_open cX11_open 2 (some .boolean) :: xG) := fun w hw => List.mem_cons_of_mem _ hw
  refine xrun_sound (nst := 0) (isInit := false) (kd := kdX11) X (xcls_mono hT xclsG) (xpool_mono hT plX11) (fun z => by cases z) (fun idx v hf => xkoE_mono hT (koX11_ok _ (xfind_mem hf))) (xents (ca := _) ?_) (endZ hE).1 (endZ hE).2 (xcuts (cu := _) ?_) pr_X11_open.1 pr_X11_open.2 _ _ _ _ _ _ _ _ (xat_ok pr_X11_open.1 pr_X11_open.2).1 (xat_ok pr_X11_open.1 pr_X11_open.2).2.1 (xat_ok pr_X11_open.1 pr_X11_open.2).2.2 h
  · exact (List.forall_mem_cons.mpr ⟨(xent_met X (ci := 2) hT cd_X2_openFile lk_X11_188 rfl (by decide) rfl (by decide +kernel) (fun z => absurd z (by decide)) (hw_X2_openFile l D cA sA fu 0) (fun _ => ⟨by decide, fun _ => ⟨TX2, 16, rfl⟩⟩) (by constructor <;> omega) (by decide)), (fun _ h => nomatch h)⟩)
  · exact (fun _ h => nomatch h)

theorem ok_X11_open (l : Launch) (D : va_G) (cA : Nat → ClassId) (sA : Nat → Nat) (fu : Nat) (s : Nat) (x1 : Int32) (M : xM) {rr : Int32 × xM} (h : F_X11_open fu s x1 M = some rr) : xMet l D cA sA yX11_open cX11_open 2 (some .boolean) xG (2 + 1) 0 0 [.inr (.inr (11, some s)), .inl x1] M (some (.inl rr.1)) rr.2 :=
  xmet_of (by decide +kernel) (Nat.le_of_ble_eq_true rfl) (fun p e s1 m ag below meth c0 A0 ad0 Z X hn hE => wx_X11_open X hn ⟨Nat.le_refl _, Nat.le_refl _⟩ hE fu s x1 M h)
theorem hw_X11_open (l : Launch) (D : va_G) (cA : Nat → ClassId) (sA : Nat → Nat) (fu : Nat) {ρ : Type} {r0 : ρ} (kd1 : Nat) : ∀ (as : List xV) (M : xM) (k : Option xV → xM → Option ρ), w_X11_open fu as M k = some r0 → ∃ v M', xMet l D cA sA yX11_open cX11_open 2 (some .boolean) xG (2 + 1) 0 0 as M v M' ∧ k v M' = some r0 ∧ (kd1 ≠ 2 → ∃ a as', as = .inr (.inr (11, some a)) :: as') := by
  intro as M k h
  unfold w_X11_open at h
  replace h := pR_some h
  obtain ⟨o, as1, rfl, h⟩ := h
  replace h := bd_some h
  obtain ⟨s, rfl, h⟩ := h
  replace h := pI_some h
  obtain ⟨x1, as1, rfl, h⟩ := h
  replace h := xe_some h
  obtain ⟨rfl, h⟩ := h
  obtain ⟨p1, hp, h⟩ := Option.bind_eq_some_iff.mp h
  exact ⟨_, _, ok_X11_open l D cA sA fu s x1 M hp, h, fun _ => ⟨_, _, rfl⟩⟩
theorem lk_X11_240 : xLink xG RX11 240 0 yX2_picked 0 := ⟨Or.inl (xg 1236 (by decide +kernel) (by decide +kernel)), (xg 1014 (by decide +kernel) (by decide +kernel)), (xg 1015 (by decide +kernel) (by decide +kernel)), (xg 134 (by decide +kernel) (by decide +kernel)), ⟨2, by decide, TX2, 16, rfl⟩⟩
theorem cd_X11_pick : Cond.code yX11_pick cX11_pick 1 (some .int) ∈ xG := (xg 1235 (by decide +kernel) (by decide +kernel))
theorem pr_X11_pick : (∀ e ∈ pX11_pick, xrow cX11_pick 1 kdX11 flX11 0 false RX11 e) ∧ xnext pX11_pick = true := xrows (by decide +kernel)
set_option maxRecDepth 100000 in
theorem wx_X11_pick (X : xCtx p R S0 m ag c0 D cA A0 sA 1 cX11_pick RX11 (.code yX11_pick cX11_pick 1 (some .int) :: xG) 0 0) (hi : meth.name = yX11_pick.name) (hroom : 3 + 2 ≤ R.frames ∧ 60 * (3 + 2) ≤ R.locals) {rr : Int32 × xM} (hE : xEnd l D cA sA cX11_pick 1 (some .int) R 0 0 (some (.inl rr.1)) rr.2 p e S0 m ag below meth c0 A0 M0 ad0 Z) (fu : Nat) (s : Nat) (M : xM) (h : F_X11_pick fu s M = some rr) : xWx p l e R S0 m ag below meth c0 D cA A0 sA M0 ad0 1 Z 0 0 0 0 0 [(0, .inr (.inr (11, some s)))] [] M := by
  rw [← q_X11_pick fu s M] at h
  have hT : ∀ w ∈ xG, w ∈ (Cond.code yX11_pick cX11_pick 1 (some .int) :: xG) := fun w hw => List.mem_cons_of_mem _ hw
  refine xrun_sound (nst := 0) (isInit := false) (kd := kdX11) X (xcls_mono hT xclsG) (xpool_mono hT plX11) (fun z => by cases z) (fun idx v hf => xkoE_mono hT (koX11_ok _ (xfind_mem hf))) (xents (ca := _) ?_) (endI hE).1 (endI hE).2 (xcuts (cu := _) ?_) pr_X11_pick.1 pr_X11_pick.2 _ _ _ _ _ _ _ _ (xat_ok pr_X11_pick.1 pr_X11_pick.2).1 (xat_ok pr_X11_pick.1 pr_X11_pick.2).2.1 (xat_ok pr_X11_pick.1 pr_X11_pick.2).2.2 h
  · exact (List.forall_mem_cons.mpr ⟨(xent_met X (ci := 2) hT cd_X2_picked lk_X11_240 rfl (by decide) rfl (by decide +kernel) (fun z => absurd z (by decide)) (hw_X2_picked l D cA sA fu 0) (fun _ => ⟨by decide, fun _ => ⟨TX2, 16, rfl⟩⟩) (by constructor <;> omega) (by decide)), (fun _ h => nomatch h)⟩)
  · exact (fun _ h => nomatch h)

theorem ok_X11_pick (l : Launch) (D : va_G) (cA : Nat → ClassId) (sA : Nat → Nat) (fu : Nat) (s : Nat) (M : xM) {rr : Int32 × xM} (h : F_X11_pick fu s M = some rr) : xMet l D cA sA yX11_pick cX11_pick 1 (some .int) xG (3 + 1) 0 0 [.inr (.inr (11, some s))] M (some (.inl rr.1)) rr.2 :=
  xmet_of (by decide +kernel) (Nat.le_of_ble_eq_true rfl) (fun p e s1 m ag below meth c0 A0 ad0 Z X hn hE => wx_X11_pick X hn ⟨Nat.le_refl _, Nat.le_refl _⟩ hE fu s M h)
theorem hw_X11_pick (l : Launch) (D : va_G) (cA : Nat → ClassId) (sA : Nat → Nat) (fu : Nat) {ρ : Type} {r0 : ρ} (kd1 : Nat) : ∀ (as : List xV) (M : xM) (k : Option xV → xM → Option ρ), w_X11_pick fu as M k = some r0 → ∃ v M', xMet l D cA sA yX11_pick cX11_pick 1 (some .int) xG (3 + 1) 0 0 as M v M' ∧ k v M' = some r0 ∧ (kd1 ≠ 2 → ∃ a as', as = .inr (.inr (11, some a)) :: as') := by
  intro as M k h
  unfold w_X11_pick at h
  replace h := pR_some h
  obtain ⟨o, as1, rfl, h⟩ := h
  replace h := bd_some h
  obtain ⟨s, rfl, h⟩ := h
  replace h := xe_some h
  obtain ⟨rfl, h⟩ := h
  obtain ⟨p1, hp, h⟩ := Option.bind_eq_some_iff.mp h
  exact ⟨_, _, ok_X11_pick l D cA sA fu s M hp, h, fun _ => ⟨_, _, rfl⟩⟩
theorem lk_X11_185 : xLink xG RX11 185 0 yX2_removeFile 1 := ⟨Or.inl (xg 1108 (by decide +kernel) (by decide +kernel)), (xg 1109 (by decide +kernel) (by decide +kernel)), (xg 1110 (by decide +kernel) (by decide +kernel)), (xg 134 (by decide +kernel) (by decide +kernel)), ⟨2, by decide, TX2, 16, rfl⟩⟩
theorem cd_X11_remove : Cond.code yX11_remove cX11_remove 2 (some .int) ∈ xG := (xg 1107 (by decide +kernel) (by decide +kernel))
theorem pr_X11_remove : (∀ e ∈ pX11_remove, xrow cX11_remove 2 kdX11 flX11 0 false RX11 e) ∧ xnext pX11_remove = true := xrows (by decide +kernel)
set_option maxRecDepth 100000 in
theorem wx_X11_remove (X : xCtx p R S0 m ag c0 D cA A0 sA 2 cX11_remove RX11 (.code yX11_remove cX11_remove 2 (some .int) :: xG) 0 0) (hi : meth.name = yX11_remove.name) (hroom : 10 + 2 ≤ R.frames ∧ 60 * (10 + 2) ≤ R.locals) {rr : Int32 × xM} (hE : xEnd l D cA sA cX11_remove 2 (some .int) R 0 0 (some (.inl rr.1)) rr.2 p e S0 m ag below meth c0 A0 M0 ad0 Z) (fu : Nat) (s : Nat) (x1 : Int32) (M : xM) (h : F_X11_remove fu s x1 M = some rr) : xWx p l e R S0 m ag below meth c0 D cA A0 sA M0 ad0 2 Z 0 0 0 0 0 [(0, .inr (.inr (11, some s))), (1, .inl x1)] [] M := by
  rw [← q_X11_remove fu s x1 M] at h
  have hT : ∀ w ∈ xG, w ∈ (Cond.code yX11_remove cX11_remove 2 (some .int) :: xG) := fun w hw => List.mem_cons_of_mem _ hw
  refine xrun_sound (nst := 0) (isInit := false) (kd := kdX11) X (xcls_mono hT xclsG) (xpool_mono hT plX11) (fun z => by cases z) (fun idx v hf => xkoE_mono hT (koX11_ok _ (xfind_mem hf))) (xents (ca := _) ?_) (endI hE).1 (endI hE).2 (xcuts (cu := _) ?_) pr_X11_remove.1 pr_X11_remove.2 _ _ _ _ _ _ _ _ (xat_ok pr_X11_remove.1 pr_X11_remove.2).1 (xat_ok pr_X11_remove.1 pr_X11_remove.2).2.1 (xat_ok pr_X11_remove.1 pr_X11_remove.2).2.2 h
  · exact (List.forall_mem_cons.mpr ⟨(xent_met X (ci := 2) hT cd_X2_removeFile lk_X11_185 rfl (by decide) rfl (by decide +kernel) (fun z => absurd z (by decide)) (hw_X2_removeFile l D cA sA fu 0) (fun _ => ⟨by decide, fun _ => ⟨TX2, 16, rfl⟩⟩) (by constructor <;> omega) (by decide)), (fun _ h => nomatch h)⟩)
  · exact (fun _ h => nomatch h)

theorem ok_X11_remove (l : Launch) (D : va_G) (cA : Nat → ClassId) (sA : Nat → Nat) (fu : Nat) (s : Nat) (x1 : Int32) (M : xM) {rr : Int32 × xM} (h : F_X11_remove fu s x1 M = some rr) : xMet l D cA sA yX11_remove cX11_remove 2 (some .int) xG (10 + 1) 0 0 [.inr (.inr (11, some s)), .inl x1] M (some (.inl rr.1)) rr.2 :=
  xmet_of (by decide +kernel) (Nat.le_of_ble_eq_true rfl) (fun p e s1 m ag below meth c0 A0 ad0 Z X hn hE => wx_X11_remove X hn ⟨Nat.le_refl _, Nat.le_refl _⟩ hE fu s x1 M h)
theorem hw_X11_remove (l : Launch) (D : va_G) (cA : Nat → ClassId) (sA : Nat → Nat) (fu : Nat) {ρ : Type} {r0 : ρ} (kd1 : Nat) : ∀ (as : List xV) (M : xM) (k : Option xV → xM → Option ρ), w_X11_remove fu as M k = some r0 → ∃ v M', xMet l D cA sA yX11_remove cX11_remove 2 (some .int) xG (10 + 1) 0 0 as M v M' ∧ k v M' = some r0 ∧ (kd1 ≠ 2 → ∃ a as', as = .inr (.inr (11, some a)) :: as') := by
  intro as M k h
  unfold w_X11_remove at h
  replace h := pR_some h
  obtain ⟨o, as1, rfl, h⟩ := h
  replace h := bd_some h
  obtain ⟨s, rfl, h⟩ := h
  replace h := pI_some h
  obtain ⟨x1, as1, rfl, h⟩ := h
  replace h := xe_some h
  obtain ⟨rfl, h⟩ := h
  obtain ⟨p1, hp, h⟩ := Option.bind_eq_some_iff.mp h
  exact ⟨_, _, ok_X11_remove l D cA sA fu s x1 M hp, h, fun _ => ⟨_, _, rfl⟩⟩
theorem cd_X11_rounds : Cond.code yX11_rounds cX11_rounds 3 (some .int) ∈ xG := (xg 1248 (by decide +kernel) (by decide +kernel))
theorem pr_X11_rounds : (∀ e ∈ pX11_rounds, xrow cX11_rounds 3 kdX11 flX11 0 false RX11 e) ∧ xnext pX11_rounds = true := xrows (by decide +kernel)
set_option maxRecDepth 100000 in
theorem wx_X11_rounds_18 (X : xCtx p R S0 m ag c0 D cA A0 sA 3 cX11_rounds RX11 (.code yX11_rounds cX11_rounds 3 (some .int) :: xG) 0 0) (hi : meth.name = yX11_rounds.name) (hroom : 9 + 2 ≤ R.frames ∧ 60 * (9 + 2) ≤ R.locals) {rr : Int32 × xM} (hE : xEnd l D cA sA cX11_rounds 3 (some .int) R 0 0 (some (.inl rr.1)) rr.2 p e S0 m ag below meth c0 A0 M0 ad0 Z) (fu : Nat) : ∀ (n : Nat) (s : Nat) (x1 : Int32) (x2 : Int32) (M : xM), L_X11_rounds_18 fu n s x1 x2 M = some rr → xWx p l e R S0 m ag below meth c0 D cA A0 sA M0 ad0 3 Z 0 0 18 0 0 [(0, .inr (.inr (11, some s))), (1, .inl x1), (2, .inl x2)] [] M := by
  intro n
  induction n with
  | zero => intro s x1 x2 M h; cases h
  | succ n ih =>
    intro s x1 x2 M h
    rw [← q_X11_rounds_18 fu n s x1 x2 M] at h
    have hT : ∀ w ∈ xG, w ∈ (Cond.code yX11_rounds cX11_rounds 3 (some .int) :: xG) := fun w hw => List.mem_cons_of_mem _ hw
    refine xrun_sound (nst := 0) (isInit := false) (kd := kdX11) X (xcls_mono hT xclsG) (xpool_mono hT plX11) (fun z => by cases z) (fun idx v hf => xkoE_mono hT (koX11_ok _ (xfind_mem hf))) (xents (ca := _) ?_) (endI hE).1 (endI hE).2 (xcuts (cu := _) ?_) pr_X11_rounds.1 pr_X11_rounds.2 _ _ _ _ _ _ _ _ (xat_ok pr_X11_rounds.1 pr_X11_rounds.2).1 (xat_ok pr_X11_rounds.1 pr_X11_rounds.2).2.1 (xat_ok pr_X11_rounds.1 pr_X11_rounds.2).2.2 h
    · exact (List.forall_mem_cons.mpr ⟨(xent_met X (ci := 2) hT cd_X2_collectBlock lk_X11_198 rfl (by decide) rfl (by decide +kernel) (fun z => absurd z (by decide)) (hw_X2_collectBlock l D cA sA fu 0) (fun _ => ⟨by decide, fun _ => ⟨TX2, 16, rfl⟩⟩) (by constructor <;> omega) (by decide)), (fun _ h => nomatch h)⟩)
    · refine (List.forall_mem_cons.mpr ⟨?_, (fun _ h => nomatch h)⟩)
      · intro bc bs ls st M h
        replace h := xz_some h
        obtain ⟨rfl, rfl, h⟩ := h
        replace h := lR_some h
        obtain ⟨o, e0, h⟩ := h
        replace h := bd_some h
        obtain ⟨s', rfl, h⟩ := h
        replace h := lI_some h
        obtain ⟨x1', e1, h⟩ := h
        replace h := lI_some h
        obtain ⟨x2', e2, h⟩ := h
        replace h := xe_some h
        obtain ⟨rfl, h⟩ := h
        exact xWx_ls (ih s' x1' x2' M h) (List.forall_mem_cons.mpr ⟨e0, (List.forall_mem_cons.mpr ⟨e1, (List.forall_mem_cons.mpr ⟨e2, (fun _ h => nomatch h)⟩)⟩)⟩)

set_option maxRecDepth 100000 in
theorem wx_X11_rounds (X : xCtx p R S0 m ag c0 D cA A0 sA 3 cX11_rounds RX11 (.code yX11_rounds cX11_rounds 3 (some .int) :: xG) 0 0) (hi : meth.name = yX11_rounds.name) (hroom : 9 + 2 ≤ R.frames ∧ 60 * (9 + 2) ≤ R.locals) {rr : Int32 × xM} (hE : xEnd l D cA sA cX11_rounds 3 (some .int) R 0 0 (some (.inl rr.1)) rr.2 p e S0 m ag below meth c0 A0 M0 ad0 Z) (fu : Nat) (s : Nat) (x1 : Int32) (M : xM) (h : F_X11_rounds fu s x1 M = some rr) : xWx p l e R S0 m ag below meth c0 D cA A0 sA M0 ad0 3 Z 0 0 0 0 0 [(0, .inr (.inr (11, some s))), (1, .inl x1)] [] M := by
  rw [← q_X11_rounds fu s x1 M] at h
  have hT : ∀ w ∈ xG, w ∈ (Cond.code yX11_rounds cX11_rounds 3 (some .int) :: xG) := fun w hw => List.mem_cons_of_mem _ hw
  refine xrun_sound (nst := 0) (isInit := false) (kd := kdX11) X (xcls_mono hT xclsG) (xpool_mono hT plX11) (fun z => by cases z) (fun idx v hf => xkoE_mono hT (koX11_ok _ (xfind_mem hf))) (xents (ca := _) ?_) (endI hE).1 (endI hE).2 (xcuts (cu := _) ?_) pr_X11_rounds.1 pr_X11_rounds.2 _ _ _ _ _ _ _ _ (xat_ok pr_X11_rounds.1 pr_X11_rounds.2).1 (xat_ok pr_X11_rounds.1 pr_X11_rounds.2).2.1 (xat_ok pr_X11_rounds.1 pr_X11_rounds.2).2.2 h
  · exact (List.forall_mem_cons.mpr ⟨(xent_met X (ci := 11) hT cd_X11_tryFromNow lk_X11_246 rfl (by decide) rfl (by decide +kernel) (fun z => absurd z (by decide)) (hw_X11_tryFromNow l D cA sA fu 0) (fun _ => ⟨by decide, fun _ => ⟨TX11, 14, rfl⟩⟩) (by constructor <;> omega) (by decide)), (fun _ h => nomatch h)⟩)
  · refine (List.forall_mem_cons.mpr ⟨?_, (fun _ h => nomatch h)⟩)
    · intro bc bs ls st M h
      replace h := xz_some h
      obtain ⟨rfl, rfl, h⟩ := h
      replace h := lR_some h
      obtain ⟨o, e0, h⟩ := h
      replace h := bd_some h
      obtain ⟨s', rfl, h⟩ := h
      replace h := lI_some h
      obtain ⟨x1', e1, h⟩ := h
      replace h := lI_some h
      obtain ⟨x2', e2, h⟩ := h
      replace h := xe_some h
      obtain ⟨rfl, h⟩ := h
      exact xWx_ls (wx_X11_rounds_18 X hi hroom hE fu fu s' x1' x2' M h) (List.forall_mem_cons.mpr ⟨e0, (List.forall_mem_cons.mpr ⟨e1, (List.forall_mem_cons.mpr ⟨e2, (fun _ h => nomatch h)⟩)⟩)⟩)

theorem ok_X11_rounds (l : Launch) (D : va_G) (cA : Nat → ClassId) (sA : Nat → Nat) (fu : Nat) (s : Nat) (x1 : Int32) (M : xM) {rr : Int32 × xM} (h : F_X11_rounds fu s x1 M = some rr) : xMet l D cA sA yX11_rounds cX11_rounds 3 (some .int) xG (9 + 1) 0 0 [.inr (.inr (11, some s)), .inl x1] M (some (.inl rr.1)) rr.2 :=
  xmet_of (by decide +kernel) (Nat.le_of_ble_eq_true rfl) (fun p e s1 m ag below meth c0 A0 ad0 Z X hn hE => wx_X11_rounds X hn ⟨Nat.le_refl _, Nat.le_refl _⟩ hE fu s x1 M h)
theorem hw_X11_rounds (l : Launch) (D : va_G) (cA : Nat → ClassId) (sA : Nat → Nat) (fu : Nat) {ρ : Type} {r0 : ρ} (kd1 : Nat) : ∀ (as : List xV) (M : xM) (k : Option xV → xM → Option ρ), w_X11_rounds fu as M k = some r0 → ∃ v M', xMet l D cA sA yX11_rounds cX11_rounds 3 (some .int) xG (9 + 1) 0 0 as M v M' ∧ k v M' = some r0 ∧ (kd1 ≠ 2 → ∃ a as', as = .inr (.inr (11, some a)) :: as') := by
  intro as M k h
  unfold w_X11_rounds at h
  replace h := pR_some h
  obtain ⟨o, as1, rfl, h⟩ := h
  replace h := bd_some h
  obtain ⟨s, rfl, h⟩ := h
  replace h := pI_some h
  obtain ⟨x1, as1, rfl, h⟩ := h
  replace h := xe_some h
  obtain ⟨rfl, h⟩ := h
  obtain ⟨p1, hp, h⟩ := Option.bind_eq_some_iff.mp h
  exact ⟨_, _, ok_X11_rounds l D cA sA fu s x1 M hp, h, fun _ => ⟨_, _, rfl⟩⟩
theorem cd_X2_valueOf : Cond.code yX2_valueOf cX2_valueOf 3 (some .int) ∈ xG := (xg 1219 (by decide +kernel) (by decide +kernel))
theorem pr_X2_valueOf : (∀ e ∈ pX2_valueOf, xrow cX2_valueOf 3 kdX2 flX2 0 false RX2 e) ∧ xnext pX2_valueOf = true := xrows (by decide +kernel)
set_option maxRecDepth 100000 in
theorem wx_X2_valueOf_13 (X : xCtx p R S0 m ag c0 D cA A0 sA 3 cX2_valueOf RX2 (.code yX2_valueOf cX2_valueOf 3 (some .int) :: xG) 0 0) (hi : meth.name = yX2_valueOf.name) (hroom : 0 + 2 ≤ R.frames ∧ 60 * (0 + 2) ≤ R.locals) {rr : Int32 × xM} (hE : xEnd l D cA sA cX2_valueOf 3 (some .int) R 0 0 (some (.inl rr.1)) rr.2 p e S0 m ag below meth c0 A0 M0 ad0 Z) (fu : Nat) : ∀ (n : Nat) (s : Nat) (x1 : Int32) (x2 : Int32) (M : xM), L_X2_valueOf_13 fu n s x1 x2 M = some rr → xWx p l e R S0 m ag below meth c0 D cA A0 sA M0 ad0 3 Z 0 0 13 0 0 [(0, .inr (.inr (2, some s))), (1, .inl x1), (2, .inl x2)] [] M := by
  intro n
  induction n with
  | zero => intro s x1 x2 M h; cases h
  | succ n ih =>
    intro s x1 x2 M h
    rw [← q_X2_valueOf_13 fu n s x1 x2 M] at h
    have hT : ∀ w ∈ xG, w ∈ (Cond.code yX2_valueOf cX2_valueOf 3 (some .int) :: xG) := fun w hw => List.mem_cons_of_mem _ hw
    refine xrun_sound (nst := 0) (isInit := false) (kd := kdX2) X (xcls_mono hT xclsG) (xpool_mono hT plX2) (fun z => by cases z) (fun idx v hf => xkoE_mono hT (koX2_ok _ (xfind_mem hf))) (xents (ca := _) ?_) (endI hE).1 (endI hE).2 (xcuts (cu := _) ?_) pr_X2_valueOf.1 pr_X2_valueOf.2 _ _ _ _ _ _ _ _ (xat_ok pr_X2_valueOf.1 pr_X2_valueOf.2).1 (xat_ok pr_X2_valueOf.1 pr_X2_valueOf.2).2.1 (xat_ok pr_X2_valueOf.1 pr_X2_valueOf.2).2.2 h
    · exact (fun _ h => nomatch h)
    · refine (List.forall_mem_cons.mpr ⟨?_, (fun _ h => nomatch h)⟩)
      · intro bc bs ls st M h
        replace h := xz_some h
        obtain ⟨rfl, rfl, h⟩ := h
        replace h := lR_some h
        obtain ⟨o, e0, h⟩ := h
        replace h := bd_some h
        obtain ⟨s', rfl, h⟩ := h
        replace h := lI_some h
        obtain ⟨x1', e1, h⟩ := h
        replace h := lI_some h
        obtain ⟨x2', e2, h⟩ := h
        replace h := xe_some h
        obtain ⟨rfl, h⟩ := h
        exact xWx_ls (ih s' x1' x2' M h) (List.forall_mem_cons.mpr ⟨e0, (List.forall_mem_cons.mpr ⟨e1, (List.forall_mem_cons.mpr ⟨e2, (fun _ h => nomatch h)⟩)⟩)⟩)

set_option maxRecDepth 100000 in
theorem wx_X2_valueOf (X : xCtx p R S0 m ag c0 D cA A0 sA 3 cX2_valueOf RX2 (.code yX2_valueOf cX2_valueOf 3 (some .int) :: xG) 0 0) (hi : meth.name = yX2_valueOf.name) (hroom : 0 + 2 ≤ R.frames ∧ 60 * (0 + 2) ≤ R.locals) {rr : Int32 × xM} (hE : xEnd l D cA sA cX2_valueOf 3 (some .int) R 0 0 (some (.inl rr.1)) rr.2 p e S0 m ag below meth c0 A0 M0 ad0 Z) (fu : Nat) (s : Nat) (x1 : Int32) (M : xM) (h : F_X2_valueOf fu s x1 M = some rr) : xWx p l e R S0 m ag below meth c0 D cA A0 sA M0 ad0 3 Z 0 0 0 0 0 [(0, .inr (.inr (2, some s))), (1, .inl x1)] [] M := by
  rw [← q_X2_valueOf fu s x1 M] at h
  have hT : ∀ w ∈ xG, w ∈ (Cond.code yX2_valueOf cX2_valueOf 3 (some .int) :: xG) := fun w hw => List.mem_cons_of_mem _ hw
  refine xrun_sound (nst := 0) (isInit := false) (kd := kdX2) X (xcls_mono hT xclsG) (xpool_mono hT plX2) (fun z => by cases z) (fun idx v hf => xkoE_mono hT (koX2_ok _ (xfind_mem hf))) (xents (ca := _) ?_) (endI hE).1 (endI hE).2 (xcuts (cu := _) ?_) pr_X2_valueOf.1 pr_X2_valueOf.2 _ _ _ _ _ _ _ _ (xat_ok pr_X2_valueOf.1 pr_X2_valueOf.2).1 (xat_ok pr_X2_valueOf.1 pr_X2_valueOf.2).2.1 (xat_ok pr_X2_valueOf.1 pr_X2_valueOf.2).2.2 h
  · exact (fun _ h => nomatch h)
  · refine (List.forall_mem_cons.mpr ⟨?_, (fun _ h => nomatch h)⟩)
    · intro bc bs ls st M h
      replace h := xz_some h
      obtain ⟨rfl, rfl, h⟩ := h
      replace h := lR_some h
      obtain ⟨o, e0, h⟩ := h
      replace h := bd_some h
      obtain ⟨s', rfl, h⟩ := h
      replace h := lI_some h
      obtain ⟨x1', e1, h⟩ := h
      replace h := lI_some h
      obtain ⟨x2', e2, h⟩ := h
      replace h := xe_some h
      obtain ⟨rfl, h⟩ := h
      exact xWx_ls (wx_X2_valueOf_13 X hi hroom hE fu fu s' x1' x2' M h) (List.forall_mem_cons.mpr ⟨e0, (List.forall_mem_cons.mpr ⟨e1, (List.forall_mem_cons.mpr ⟨e2, (fun _ h => nomatch h)⟩)⟩)⟩)

theorem ok_X2_valueOf (l : Launch) (D : va_G) (cA : Nat → ClassId) (sA : Nat → Nat) (fu : Nat) (s : Nat) (x1 : Int32) (M : xM) {rr : Int32 × xM} (h : F_X2_valueOf fu s x1 M = some rr) : xMet l D cA sA yX2_valueOf cX2_valueOf 3 (some .int) xG (0 + 1) 0 0 [.inr (.inr (2, some s)), .inl x1] M (some (.inl rr.1)) rr.2 :=
  xmet_of (by decide +kernel) (Nat.le_of_ble_eq_true rfl) (fun p e s1 m ag below meth c0 A0 ad0 Z X hn hE => wx_X2_valueOf X hn ⟨Nat.le_refl _, Nat.le_refl _⟩ hE fu s x1 M h)
theorem hw_X2_valueOf (l : Launch) (D : va_G) (cA : Nat → ClassId) (sA : Nat → Nat) (fu : Nat) {ρ : Type} {r0 : ρ} (kd1 : Nat) : ∀ (as : List xV) (M : xM) (k : Option xV → xM → Option ρ), w_X2_valueOf fu as M k = some r0 → ∃ v M', xMet l D cA sA yX2_valueOf cX2_valueOf 3 (some .int) xG (0 + 1) 0 0 as M v M' ∧ k v M' = some r0 ∧ (kd1 ≠ 2 → ∃ a as', as = .inr (.inr (2, some a)) :: as') := by
  intro as M k h
  unfold w_X2_valueOf at h
  replace h := pR_some h
  obtain ⟨o, as1, rfl, h⟩ := h
  replace h := bd_some h
  obtain ⟨s, rfl, h⟩ := h
  replace h := pI_some h
  obtain ⟨x1, as1, rfl, h⟩ := h
  replace h := xe_some h
  obtain ⟨rfl, h⟩ := h
  obtain ⟨p1, hp, h⟩ := Option.bind_eq_some_iff.mp h
  exact ⟨_, _, ok_X2_valueOf l D cA sA fu s x1 M hp, h, fun _ => ⟨_, _, rfl⟩⟩
theorem lk_X11_217 : xLink xG RX11 217 0 yX2_valueOf 1 := ⟨Or.inl (xg 1216 (by decide +kernel) (by decide +kernel)), (xg 1217 (by decide +kernel) (by decide +kernel)), (xg 1218 (by decide +kernel) (by decide +kernel)), (xg 134 (by decide +kernel) (by decide +kernel)), ⟨2, by decide, TX2, 16, rfl⟩⟩
theorem cd_X11_says : Cond.code yX11_says cX11_says 3 (some .int) ∈ xG := (xg 1214 (by decide +kernel) (by decide +kernel))
theorem pr_X11_says : (∀ e ∈ pX11_says, xrow cX11_says 3 kdX11 flX11 0 false RX11 e) ∧ xnext pX11_says = true := xrows (by decide +kernel)
set_option maxRecDepth 100000 in
theorem wx_X11_says (X : xCtx p R S0 m ag c0 D cA A0 sA 3 cX11_says RX11 (.code yX11_says cX11_says 3 (some .int) :: xG) 0 0) (hi : meth.name = yX11_says.name) (hroom : 2 + 2 ≤ R.frames ∧ 60 * (2 + 2) ≤ R.locals) {rr : Int32 × xM} (hE : xEnd l D cA sA cX11_says 3 (some .int) R 0 0 (some (.inl rr.1)) rr.2 p e S0 m ag below meth c0 A0 M0 ad0 Z) (fu : Nat) (s : Nat) (x1 : Int32) (x2 : Int32) (M : xM) (h : F_X11_says fu s x1 x2 M = some rr) : xWx p l e R S0 m ag below meth c0 D cA A0 sA M0 ad0 3 Z 0 0 0 0 0 [(0, .inr (.inr (11, some s))), (1, .inl x1), (2, .inl x2)] [] M := by
  rw [← q_X11_says fu s x1 x2 M] at h
  have hT : ∀ w ∈ xG, w ∈ (Cond.code yX11_says cX11_says 3 (some .int) :: xG) := fun w hw => List.mem_cons_of_mem _ hw
  refine xrun_sound (nst := 0) (isInit := false) (kd := kdX11) X (xcls_mono hT xclsG) (xpool_mono hT plX11) (fun z => by cases z) (fun idx v hf => xkoE_mono hT (koX11_ok _ (xfind_mem hf))) (xents (ca := _) ?_) (endI hE).1 (endI hE).2 (xcuts (cu := _) ?_) pr_X11_says.1 pr_X11_says.2 _ _ _ _ _ _ _ _ (xat_ok pr_X11_says.1 pr_X11_says.2).1 (xat_ok pr_X11_says.1 pr_X11_says.2).2.1 (xat_ok pr_X11_says.1 pr_X11_says.2).2.2 h
  · exact (List.forall_mem_cons.mpr ⟨(xent_met X (ci := 7) hT cd_X7_isPage lk_X11_213 rfl (by decide) rfl (by decide +kernel) (fun z => absurd z (by decide)) (hw_X7_isPage l D cA sA fu 0) (fun _ => ⟨by decide, fun _ => ⟨TX7, 9, rfl⟩⟩) (by constructor <;> omega) (by decide)), (List.forall_mem_cons.mpr ⟨(xent_met X (ci := 2) hT cd_X2_valueOf lk_X11_217 rfl (by decide) rfl (by decide +kernel) (fun z => absurd z (by decide)) (hw_X2_valueOf l D cA sA fu 0) (fun _ => ⟨by decide, fun _ => ⟨TX2, 16, rfl⟩⟩) (by constructor <;> omega) (by decide)), (fun _ h => nomatch h)⟩)⟩)
  · exact (fun _ h => nomatch h)

theorem ok_X11_says (l : Launch) (D : va_G) (cA : Nat → ClassId) (sA : Nat → Nat) (fu : Nat) (s : Nat) (x1 : Int32) (x2 : Int32) (M : xM) {rr : Int32 × xM} (h : F_X11_says fu s x1 x2 M = some rr) : xMet l D cA sA yX11_says cX11_says 3 (some .int) xG (2 + 1) 0 0 [.inr (.inr (11, some s)), .inl x1, .inl x2] M (some (.inl rr.1)) rr.2 :=
  xmet_of (by decide +kernel) (Nat.le_of_ble_eq_true rfl) (fun p e s1 m ag below meth c0 A0 ad0 Z X hn hE => wx_X11_says X hn ⟨Nat.le_refl _, Nat.le_refl _⟩ hE fu s x1 x2 M h)
theorem hw_X11_says (l : Launch) (D : va_G) (cA : Nat → ClassId) (sA : Nat → Nat) (fu : Nat) {ρ : Type} {r0 : ρ} (kd1 : Nat) : ∀ (as : List xV) (M : xM) (k : Option xV → xM → Option ρ), w_X11_says fu as M k = some r0 → ∃ v M', xMet l D cA sA yX11_says cX11_says 3 (some .int) xG (2 + 1) 0 0 as M v M' ∧ k v M' = some r0 ∧ (kd1 ≠ 2 → ∃ a as', as = .inr (.inr (11, some a)) :: as') := by
  intro as M k h
  unfold w_X11_says at h
  replace h := pR_some h
  obtain ⟨o, as1, rfl, h⟩ := h
  replace h := bd_some h
  obtain ⟨s, rfl, h⟩ := h
  replace h := pI_some h
  obtain ⟨x1, as1, rfl, h⟩ := h
  replace h := pI_some h
  obtain ⟨x2, as1, rfl, h⟩ := h
  replace h := xe_some h
  obtain ⟨rfl, h⟩ := h
  obtain ⟨p1, hp, h⟩ := Option.bind_eq_some_iff.mp h
  exact ⟨_, _, ok_X11_says l D cA sA fu s x1 x2 M hp, h, fun _ => ⟨_, _, rfl⟩⟩
theorem cd_X1_add : Cond.code yX1_add cX1_add 4 (some .boolean) ∈ xG := (xg 1359 (by decide +kernel) (by decide +kernel))
theorem pr_X1_add : (∀ e ∈ pX1_add, xrow cX1_add 4 kdX1 flX1 0 false RX1 e) ∧ xnext pX1_add = true := xrows (by decide +kernel)
set_option maxRecDepth 100000 in
theorem wx_X1_add (X : xCtx p R S0 m ag c0 D cA A0 sA 4 cX1_add RX1 (.code yX1_add cX1_add 4 (some .boolean) :: xG) 0 0) (hi : meth.name = yX1_add.name) (hroom : 0 + 2 ≤ R.frames ∧ 60 * (0 + 2) ≤ R.locals) {rr : Int32 × xM} (hE : xEnd l D cA sA cX1_add 4 (some .boolean) R 0 0 (some (.inl rr.1)) rr.2 p e S0 m ag below meth c0 A0 M0 ad0 Z) (fu : Nat) (s : Nat) (x1 : Int32) (x2 : Int32) (x3 : Int32) (M : xM) (h : F_X1_add fu s x1 x2 x3 M = some rr) : xWx p l e R S0 m ag below meth c0 D cA A0 sA M0 ad0 4 Z 0 0 0 0 0 [(0, .inr (.inr (1, some s))), (1, .inl x1), (2, .inl x2), (3, .inl x3)] [] M := by
  rw [← q_X1_add fu s x1 x2 x3 M] at h
  have hT : ∀ w ∈ xG, w ∈ (Cond.code yX1_add cX1_add 4 (some .boolean) :: xG) := fun w hw => List.mem_cons_of_mem _ hw
  refine xrun_sound (nst := 0) (isInit := false) (kd := kdX1) X (xcls_mono hT xclsG) (xpool_mono hT plX1) (fun z => by cases z) (fun idx v hf => xkoE_mono hT (koX1_ok _ (xfind_mem hf))) (xents (ca := _) ?_) (endZ hE).1 (endZ hE).2 (xcuts (cu := _) ?_) pr_X1_add.1 pr_X1_add.2 _ _ _ _ _ _ _ _ (xat_ok pr_X1_add.1 pr_X1_add.2).1 (xat_ok pr_X1_add.1 pr_X1_add.2).2.1 (xat_ok pr_X1_add.1 pr_X1_add.2).2.2 h
  · exact (fun _ h => nomatch h)
  · exact (fun _ h => nomatch h)

theorem ok_X1_add (l : Launch) (D : va_G) (cA : Nat → ClassId) (sA : Nat → Nat) (fu : Nat) (s : Nat) (x1 : Int32) (x2 : Int32) (x3 : Int32) (M : xM) {rr : Int32 × xM} (h : F_X1_add fu s x1 x2 x3 M = some rr) : xMet l D cA sA yX1_add cX1_add 4 (some .boolean) xG (0 + 1) 0 0 [.inr (.inr (1, some s)), .inl x1, .inl x2, .inl x3] M (some (.inl rr.1)) rr.2 :=
  xmet_of (by decide +kernel) (Nat.le_of_ble_eq_true rfl) (fun p e s1 m ag below meth c0 A0 ad0 Z X hn hE => wx_X1_add X hn ⟨Nat.le_refl _, Nat.le_refl _⟩ hE fu s x1 x2 x3 M h)
theorem hw_X1_add (l : Launch) (D : va_G) (cA : Nat → ClassId) (sA : Nat → Nat) (fu : Nat) {ρ : Type} {r0 : ρ} (kd1 : Nat) : ∀ (as : List xV) (M : xM) (k : Option xV → xM → Option ρ), w_X1_add fu as M k = some r0 → ∃ v M', xMet l D cA sA yX1_add cX1_add 4 (some .boolean) xG (0 + 1) 0 0 as M v M' ∧ k v M' = some r0 ∧ (kd1 ≠ 2 → ∃ a as', as = .inr (.inr (1, some a)) :: as') := by
  intro as M k h
  unfold w_X1_add at h
  replace h := pR_some h
  obtain ⟨o, as1, rfl, h⟩ := h
  replace h := bd_some h
  obtain ⟨s, rfl, h⟩ := h
  replace h := pI_some h
  obtain ⟨x1, as1, rfl, h⟩ := h
  replace h := pI_some h
  obtain ⟨x2, as1, rfl, h⟩ := h
  replace h := pI_some h
  obtain ⟨x3, as1, rfl, h⟩ := h
  replace h := xe_some h
  obtain ⟨rfl, h⟩ := h
  obtain ⟨p1, hp, h⟩ := Option.bind_eq_some_iff.mp h
  exact ⟨_, _, ok_X1_add l D cA sA fu s x1 x2 x3 M hp, h, fun _ => ⟨_, _, rfl⟩⟩
theorem lk_X11_297 : xLink xG RX11 297 0 yX1_add 3 := ⟨Or.inl (xg 1356 (by decide +kernel) (by decide +kernel)), (xg 1357 (by decide +kernel) (by decide +kernel)), (xg 1358 (by decide +kernel) (by decide +kernel)), (xg 137 (by decide +kernel) (by decide +kernel)), ⟨1, by decide, TX1, 4, rfl⟩⟩
theorem cd_X11_see : Cond.code yX11_see cX11_see 5 (some .boolean) ∈ xG := (xg 1355 (by decide +kernel) (by decide +kernel))
theorem pr_X11_see : (∀ e ∈ pX11_see, xrow cX11_see 5 kdX11 flX11 0 false RX11 e) ∧ xnext pX11_see = true := xrows (by decide +kernel)
set_option maxRecDepth 100000 in
theorem wx_X11_see (X : xCtx p R S0 m ag c0 D cA A0 sA 5 cX11_see RX11 (.code yX11_see cX11_see 5 (some .boolean) :: xG) 0 0) (hi : meth.name = yX11_see.name) (hroom : 2 + 2 ≤ R.frames ∧ 60 * (2 + 2) ≤ R.locals) {rr : Int32 × xM} (hE : xEnd l D cA sA cX11_see 5 (some .boolean) R 0 0 (some (.inl rr.1)) rr.2 p e S0 m ag below meth c0 A0 M0 ad0 Z) (fu : Nat) (s : Nat) (x1 : Int32) (x2 : Int32) (x3 : Int32) (x4 : Int32) (M : xM) (h : F_X11_see fu s x1 x2 x3 x4 M = some rr) : xWx p l e R S0 m ag below meth c0 D cA A0 sA M0 ad0 5 Z 0 0 0 0 0 [(0, .inr (.inr (11, some s))), (1, .inl x1), (2, .inl x2), (3, .inl x3), (4, .inl x4)] [] M := by
  rw [← q_X11_see fu s x1 x2 x3 x4 M] at h
  have hT : ∀ w ∈ xG, w ∈ (Cond.code yX11_see cX11_see 5 (some .boolean) :: xG) := fun w hw => List.mem_cons_of_mem _ hw
  refine xrun_sound (nst := 0) (isInit := false) (kd := kdX11) X (xcls_mono hT xclsG) (xpool_mono hT plX11) (fun z => by cases z) (fun idx v hf => xkoE_mono hT (koX11_ok _ (xfind_mem hf))) (xents (ca := _) ?_) (endZ hE).1 (endZ hE).2 (xcuts (cu := _) ?_) pr_X11_see.1 pr_X11_see.2 _ _ _ _ _ _ _ _ (xat_ok pr_X11_see.1 pr_X11_see.2).1 (xat_ok pr_X11_see.1 pr_X11_see.2).2.1 (xat_ok pr_X11_see.1 pr_X11_see.2).2.2 h
  · exact (List.forall_mem_cons.mpr ⟨(xent_met X (ci := 7) hT cd_X7_isPage lk_X11_213 rfl (by decide) rfl (by decide +kernel) (fun z => absurd z (by decide)) (hw_X7_isPage l D cA sA fu 0) (fun _ => ⟨by decide, fun _ => ⟨TX7, 9, rfl⟩⟩) (by constructor <;> omega) (by decide)), (List.forall_mem_cons.mpr ⟨(xent_met X (ci := 1) hT cd_X1_add lk_X11_297 rfl (by decide) rfl (by decide +kernel) (fun z => absurd z (by decide)) (hw_X1_add l D cA sA fu 0) (fun _ => ⟨by decide, fun _ => ⟨TX1, 4, rfl⟩⟩) (by constructor <;> omega) (by decide)), (fun _ h => nomatch h)⟩)⟩)
  · exact (fun _ h => nomatch h)

theorem ok_X11_see (l : Launch) (D : va_G) (cA : Nat → ClassId) (sA : Nat → Nat) (fu : Nat) (s : Nat) (x1 : Int32) (x2 : Int32) (x3 : Int32) (x4 : Int32) (M : xM) {rr : Int32 × xM} (h : F_X11_see fu s x1 x2 x3 x4 M = some rr) : xMet l D cA sA yX11_see cX11_see 5 (some .boolean) xG (2 + 1) 0 0 [.inr (.inr (11, some s)), .inl x1, .inl x2, .inl x3, .inl x4] M (some (.inl rr.1)) rr.2 :=
  xmet_of (by decide +kernel) (Nat.le_of_ble_eq_true rfl) (fun p e s1 m ag below meth c0 A0 ad0 Z X hn hE => wx_X11_see X hn ⟨Nat.le_refl _, Nat.le_refl _⟩ hE fu s x1 x2 x3 x4 M h)
theorem hw_X11_see (l : Launch) (D : va_G) (cA : Nat → ClassId) (sA : Nat → Nat) (fu : Nat) {ρ : Type} {r0 : ρ} (kd1 : Nat) : ∀ (as : List xV) (M : xM) (k : Option xV → xM → Option ρ), w_X11_see fu as M k = some r0 → ∃ v M', xMet l D cA sA yX11_see cX11_see 5 (some .boolean) xG (2 + 1) 0 0 as M v M' ∧ k v M' = some r0 ∧ (kd1 ≠ 2 → ∃ a as', as = .inr (.inr (11, some a)) :: as') := by
  intro as M k h
  unfold w_X11_see at h
  replace h := pR_some h
  obtain ⟨o, as1, rfl, h⟩ := h
  replace h := bd_some h
  obtain ⟨s, rfl, h⟩ := h
  replace h := pI_some h
  obtain ⟨x1, as1, rfl, h⟩ := h
  replace h := pI_some h
  obtain ⟨x2, as1, rfl, h⟩ := h
  replace h := pI_some h
  obtain ⟨x3, as1, rfl, h⟩ := h
  replace h := pI_some h
  obtain ⟨x4, as1, rfl, h⟩ := h
  replace h := xe_some h
  obtain ⟨rfl, h⟩ := h
  obtain ⟨p1, hp, h⟩ := Option.bind_eq_some_iff.mp h
  exact ⟨_, _, ok_X11_see l D cA sA fu s x1 x2 x3 x4 M hp, h, fun _ => ⟨_, _, rfl⟩⟩
theorem cd_X2_isLive : Cond.code yX2_isLive cX2_isLive 2 (some .boolean) ∈ xG := (xg 919 (by decide +kernel) (by decide +kernel))
theorem pr_X2_isLive : (∀ e ∈ pX2_isLive, xrow cX2_isLive 2 kdX2 flX2 0 false RX2 e) ∧ xnext pX2_isLive = true := xrows (by decide +kernel)
set_option maxRecDepth 100000 in
theorem wx_X2_isLive (X : xCtx p R S0 m ag c0 D cA A0 sA 2 cX2_isLive RX2 (.code yX2_isLive cX2_isLive 2 (some .boolean) :: xG) 0 0) (hi : meth.name = yX2_isLive.name) (hroom : 2 + 2 ≤ R.frames ∧ 60 * (2 + 2) ≤ R.locals) {rr : Int32 × xM} (hE : xEnd l D cA sA cX2_isLive 2 (some .boolean) R 0 0 (some (.inl rr.1)) rr.2 p e S0 m ag below meth c0 A0 M0 ad0 Z) (fu : Nat) (s : Nat) (x1 : Int32) (M : xM) (h : F_X2_isLive fu s x1 M = some rr) : xWx p l e R S0 m ag below meth c0 D cA A0 sA M0 ad0 2 Z 0 0 0 0 0 [(0, .inr (.inr (2, some s))), (1, .inl x1)] [] M := by
  rw [← q_X2_isLive fu s x1 M] at h
  have hT : ∀ w ∈ xG, w ∈ (Cond.code yX2_isLive cX2_isLive 2 (some .boolean) :: xG) := fun w hw => List.mem_cons_of_mem _ hw
  refine xrun_sound (nst := 0) (isInit := false) (kd := kdX2) X (xcls_mono hT xclsG) (xpool_mono hT plX2) (fun z => by cases z) (fun idx v hf => xkoE_mono hT (koX2_ok _ (xfind_mem hf))) (xents (ca := _) ?_) (endZ hE).1 (endZ hE).2 (xcuts (cu := _) ?_) pr_X2_isLive.1 pr_X2_isLive.2 _ _ _ _ _ _ _ _ (xat_ok pr_X2_isLive.1 pr_X2_isLive.2).1 (xat_ok pr_X2_isLive.1 pr_X2_isLive.2).2.1 (xat_ok pr_X2_isLive.1 pr_X2_isLive.2).2.2 h
  · exact (List.forall_mem_cons.mpr ⟨(xent_met X (ci := 2) hT cd_X2_survey lk_X2_174 rfl (by decide) rfl (by decide +kernel) (fun z => absurd z (by decide)) (hw_X2_survey l D cA sA fu 0) (fun _ => ⟨by decide, fun _ => ⟨TX2, 16, rfl⟩⟩) (by constructor <;> omega) (by decide)), (fun _ h => nomatch h)⟩)
  · exact (fun _ h => nomatch h)

theorem ok_X2_isLive (l : Launch) (D : va_G) (cA : Nat → ClassId) (sA : Nat → Nat) (fu : Nat) (s : Nat) (x1 : Int32) (M : xM) {rr : Int32 × xM} (h : F_X2_isLive fu s x1 M = some rr) : xMet l D cA sA yX2_isLive cX2_isLive 2 (some .boolean) xG (2 + 1) 0 0 [.inr (.inr (2, some s)), .inl x1] M (some (.inl rr.1)) rr.2 :=
  xmet_of (by decide +kernel) (Nat.le_of_ble_eq_true rfl) (fun p e s1 m ag below meth c0 A0 ad0 Z X hn hE => wx_X2_isLive X hn ⟨Nat.le_refl _, Nat.le_refl _⟩ hE fu s x1 M h)
theorem hw_X2_isLive (l : Launch) (D : va_G) (cA : Nat → ClassId) (sA : Nat → Nat) (fu : Nat) {ρ : Type} {r0 : ρ} (kd1 : Nat) : ∀ (as : List xV) (M : xM) (k : Option xV → xM → Option ρ), w_X2_isLive fu as M k = some r0 → ∃ v M', xMet l D cA sA yX2_isLive cX2_isLive 2 (some .boolean) xG (2 + 1) 0 0 as M v M' ∧ k v M' = some r0 ∧ (kd1 ≠ 2 → ∃ a as', as = .inr (.inr (2, some a)) :: as') := by
  intro as M k h
  unfold w_X2_isLive at h
  replace h := pR_some h
  obtain ⟨o, as1, rfl, h⟩ := h
  replace h := bd_some h
  obtain ⟨s, rfl, h⟩ := h
  replace h := pI_some h
  obtain ⟨x1, as1, rfl, h⟩ := h
  replace h := xe_some h
  obtain ⟨rfl, h⟩ := h
  obtain ⟨p1, hp, h⟩ := Option.bind_eq_some_iff.mp h
  exact ⟨_, _, ok_X2_isLive l D cA sA fu s x1 M hp, h, fun _ => ⟨_, _, rfl⟩⟩
theorem lk_X11_133 : xLink xG RX11 133 0 yX2_isLive 1 := ⟨Or.inl (xg 916 (by decide +kernel) (by decide +kernel)), (xg 917 (by decide +kernel) (by decide +kernel)), (xg 918 (by decide +kernel) (by decide +kernel)), (xg 134 (by decide +kernel) (by decide +kernel)), ⟨2, by decide, TX2, 16, rfl⟩⟩
theorem lk_X11_136 : xLink xG RX11 136 0 yX0_tell 2 := ⟨Or.inl (xg 940 (by decide +kernel) (by decide +kernel)), (xg 941 (by decide +kernel) (by decide +kernel)), (xg 942 (by decide +kernel) (by decide +kernel)), (xg 135 (by decide +kernel) (by decide +kernel)), ⟨0, by decide, TX0, 16, rfl⟩⟩
theorem cd_X11_slot : Cond.code yX11_slot cX11_slot 3 (some .int) ∈ xG := (xg 911 (by decide +kernel) (by decide +kernel))
theorem pr_X11_slot : (∀ e ∈ pX11_slot, xrow cX11_slot 3 kdX11 flX11 0 false RX11 e) ∧ xnext pX11_slot = true := xrows (by decide +kernel)
set_option maxRecDepth 100000 in
theorem wx_X11_slot (X : xCtx p R S0 m ag c0 D cA A0 sA 3 cX11_slot RX11 (.code yX11_slot cX11_slot 3 (some .int) :: xG) 0 0) (hi : meth.name = yX11_slot.name) (hroom : 3 + 2 ≤ R.frames ∧ 60 * (3 + 2) ≤ R.locals) {rr : Int32 × xM} (hE : xEnd l D cA sA cX11_slot 3 (some .int) R 0 0 (some (.inl rr.1)) rr.2 p e S0 m ag below meth c0 A0 M0 ad0 Z) (fu : Nat) (s : Nat) (x1 : Int32) (x2 : Int32) (M : xM) (h : F_X11_slot fu s x1 x2 M = some rr) : xWx p l e R S0 m ag below meth c0 D cA A0 sA M0 ad0 3 Z 0 0 0 0 0 [(0, .inr (.inr (11, some s))), (1, .inl x1), (2, .inl x2)] [] M := by
  rw [← q_X11_slot fu s x1 x2 M] at h
  have hT : ∀ w ∈ xG, w ∈ (Cond.code yX11_slot cX11_slot 3 (some .int) :: xG) := fun w hw => List.mem_cons_of_mem _ hw
  refine xrun_sound (nst := 0) (isInit := false) (kd := kdX11) X (xcls_mono hT xclsG) (xpool_mono hT plX11) (fun z => by cases z) (fun idx v hf => xkoE_mono hT (koX11_ok _ (xfind_mem hf))) (xents (ca := _) ?_) (endI hE).1 (endI hE).2 (xcuts (cu := _) ?_) pr_X11_slot.1 pr_X11_slot.2 _ _ _ _ _ _ _ _ (xat_ok pr_X11_slot.1 pr_X11_slot.2).1 (xat_ok pr_X11_slot.1 pr_X11_slot.2).2.1 (xat_ok pr_X11_slot.1 pr_X11_slot.2).2.2 h
  · exact (List.forall_mem_cons.mpr ⟨(xent_met X (ci := 0) hT cd_X0_isSlot lk_X11_127 rfl (by decide) rfl (by decide +kernel) (fun z => absurd z (by decide)) (hw_X0_isSlot l D cA sA fu 0) (fun _ => ⟨by decide, fun _ => ⟨TX0, 16, rfl⟩⟩) (by constructor <;> omega) (by decide)), (List.forall_mem_cons.mpr ⟨(xent_met X (ci := 2) hT cd_X2_isLive lk_X11_133 rfl (by decide) rfl (by decide +kernel) (fun z => absurd z (by decide)) (hw_X2_isLive l D cA sA fu 0) (fun _ => ⟨by decide, fun _ => ⟨TX2, 16, rfl⟩⟩) (by constructor <;> omega) (by decide)), (List.forall_mem_cons.mpr ⟨(xent_met X (ci := 0) hT cd_X0_tell lk_X11_136 rfl (by decide) rfl (by decide +kernel) (fun z => absurd z (by decide)) (hw_X0_tell l D cA sA fu 0) (fun _ => ⟨by decide, fun _ => ⟨TX0, 16, rfl⟩⟩) (by constructor <;> omega) (by decide)), (fun _ h => nomatch h)⟩)⟩)⟩)
  · exact (fun _ h => nomatch h)

theorem ok_X11_slot (l : Launch) (D : va_G) (cA : Nat → ClassId) (sA : Nat → Nat) (fu : Nat) (s : Nat) (x1 : Int32) (x2 : Int32) (M : xM) {rr : Int32 × xM} (h : F_X11_slot fu s x1 x2 M = some rr) : xMet l D cA sA yX11_slot cX11_slot 3 (some .int) xG (3 + 1) 0 0 [.inr (.inr (11, some s)), .inl x1, .inl x2] M (some (.inl rr.1)) rr.2 :=
  xmet_of (by decide +kernel) (Nat.le_of_ble_eq_true rfl) (fun p e s1 m ag below meth c0 A0 ad0 Z X hn hE => wx_X11_slot X hn ⟨Nat.le_refl _, Nat.le_refl _⟩ hE fu s x1 x2 M h)
theorem hw_X11_slot (l : Launch) (D : va_G) (cA : Nat → ClassId) (sA : Nat → Nat) (fu : Nat) {ρ : Type} {r0 : ρ} (kd1 : Nat) : ∀ (as : List xV) (M : xM) (k : Option xV → xM → Option ρ), w_X11_slot fu as M k = some r0 → ∃ v M', xMet l D cA sA yX11_slot cX11_slot 3 (some .int) xG (3 + 1) 0 0 as M v M' ∧ k v M' = some r0 ∧ (kd1 ≠ 2 → ∃ a as', as = .inr (.inr (11, some a)) :: as') := by
  intro as M k h
  unfold w_X11_slot at h
  replace h := pR_some h
  obtain ⟨o, as1, rfl, h⟩ := h
  replace h := bd_some h
  obtain ⟨s, rfl, h⟩ := h
  replace h := pI_some h
  obtain ⟨x1, as1, rfl, h⟩ := h
  replace h := pI_some h
  obtain ⟨x2, as1, rfl, h⟩ := h
  replace h := xe_some h
  obtain ⟨rfl, h⟩ := h
  obtain ⟨p1, hp, h⟩ := Option.bind_eq_some_iff.mp h
  exact ⟨_, _, ok_X11_slot l D cA sA fu s x1 x2 M hp, h, fun _ => ⟨_, _, rfl⟩⟩
theorem lk_X11_229 : xLink xG RX11 229 0 yX2_parts 0 := ⟨Or.inl (xg 1230 (by decide +kernel) (by decide +kernel)), (xg 1097 (by decide +kernel) (by decide +kernel)), (xg 1098 (by decide +kernel) (by decide +kernel)), (xg 134 (by decide +kernel) (by decide +kernel)), ⟨2, by decide, TX2, 16, rfl⟩⟩
theorem cd_X11_spare : Cond.code yX11_spare cX11_spare 1 (some .int) ∈ xG := (xg 1229 (by decide +kernel) (by decide +kernel))
theorem pr_X11_spare : (∀ e ∈ pX11_spare, xrow cX11_spare 1 kdX11 flX11 0 false RX11 e) ∧ xnext pX11_spare = true := xrows (by decide +kernel)
set_option maxRecDepth 100000 in
theorem wx_X11_spare (X : xCtx p R S0 m ag c0 D cA A0 sA 1 cX11_spare RX11 (.code yX11_spare cX11_spare 1 (some .int) :: xG) 0 0) (hi : meth.name = yX11_spare.name) (hroom : 6 + 2 ≤ R.frames ∧ 60 * (6 + 2) ≤ R.locals) {rr : Int32 × xM} (hE : xEnd l D cA sA cX11_spare 1 (some .int) R 0 0 (some (.inl rr.1)) rr.2 p e S0 m ag below meth c0 A0 M0 ad0 Z) (fu : Nat) (s : Nat) (M : xM) (h : F_X11_spare fu s M = some rr) : xWx p l e R S0 m ag below meth c0 D cA A0 sA M0 ad0 1 Z 0 0 0 0 0 [(0, .inr (.inr (11, some s)))] [] M := by
  rw [← q_X11_spare fu s M] at h
  have hT : ∀ w ∈ xG, w ∈ (Cond.code yX11_spare cX11_spare 1 (some .int) :: xG) := fun w hw => List.mem_cons_of_mem _ hw
  refine xrun_sound (nst := 0) (isInit := false) (kd := kdX11) X (xcls_mono hT xclsG) (xpool_mono hT plX11) (fun z => by cases z) (fun idx v hf => xkoE_mono hT (koX11_ok _ (xfind_mem hf))) (xents (ca := _) ?_) (endI hE).1 (endI hE).2 (xcuts (cu := _) ?_) pr_X11_spare.1 pr_X11_spare.2 _ _ _ _ _ _ _ _ (xat_ok pr_X11_spare.1 pr_X11_spare.2).1 (xat_ok pr_X11_spare.1 pr_X11_spare.2).2.1 (xat_ok pr_X11_spare.1 pr_X11_spare.2).2.2 h
  · exact (List.forall_mem_cons.mpr ⟨(xent_met X (ci := 2) hT cd_X2_parts lk_X11_229 rfl (by decide) rfl (by decide +kernel) (fun z => absurd z (by decide)) (hw_X2_parts l D cA sA fu 0) (fun _ => ⟨by decide, fun _ => ⟨TX2, 16, rfl⟩⟩) (by constructor <;> omega) (by decide)), (List.forall_mem_cons.mpr ⟨(xent_max X hT (xg 1231 (by decide +kernel) (by decide +kernel)) (xg 429 (by decide +kernel) (by decide +kernel)) (xg 136 (by decide +kernel) (by decide +kernel)) (xg 430 (by decide +kernel) (by decide +kernel)) rfl), (fun _ h => nomatch h)⟩)⟩)
  · exact (fun _ h => nomatch h)

theorem ok_X11_spare (l : Launch) (D : va_G) (cA : Nat → ClassId) (sA : Nat → Nat) (fu : Nat) (s : Nat) (M : xM) {rr : Int32 × xM} (h : F_X11_spare fu s M = some rr) : xMet l D cA sA yX11_spare cX11_spare 1 (some .int) xG (6 + 1) 0 0 [.inr (.inr (11, some s))] M (some (.inl rr.1)) rr.2 :=
  xmet_of (by decide +kernel) (Nat.le_of_ble_eq_true rfl) (fun p e s1 m ag below meth c0 A0 ad0 Z X hn hE => wx_X11_spare X hn ⟨Nat.le_refl _, Nat.le_refl _⟩ hE fu s M h)
theorem hw_X11_spare (l : Launch) (D : va_G) (cA : Nat → ClassId) (sA : Nat → Nat) (fu : Nat) {ρ : Type} {r0 : ρ} (kd1 : Nat) : ∀ (as : List xV) (M : xM) (k : Option xV → xM → Option ρ), w_X11_spare fu as M k = some r0 → ∃ v M', xMet l D cA sA yX11_spare cX11_spare 1 (some .int) xG (6 + 1) 0 0 as M v M' ∧ k v M' = some r0 ∧ (kd1 ≠ 2 → ∃ a as', as = .inr (.inr (11, some a)) :: as') := by
  intro as M k h
  unfold w_X11_spare at h
  replace h := pR_some h
  obtain ⟨o, as1, rfl, h⟩ := h
  replace h := bd_some h
  obtain ⟨s, rfl, h⟩ := h
  replace h := xe_some h
  obtain ⟨rfl, h⟩ := h
  obtain ⟨p1, hp, h⟩ := Option.bind_eq_some_iff.mp h
  exact ⟨_, _, ok_X11_spare l D cA sA fu s M hp, h, fun _ => ⟨_, _, rfl⟩⟩
theorem cd_X9_clear : Cond.code yX9_clear cX9_clear 1 none ∈ xG := (xg 866 (by decide +kernel) (by decide +kernel))
theorem pr_X9_clear : (∀ e ∈ pX9_clear, xrow cX9_clear 1 kdX9 flX9 0 false RX9 e) ∧ xnext pX9_clear = true := xrows (by decide +kernel)
set_option maxRecDepth 100000 in
theorem wx_X9_clear (X : xCtx p R S0 m ag c0 D cA A0 sA 1 cX9_clear RX9 (.code yX9_clear cX9_clear 1 none :: xG) 0 0) (hi : meth.name = yX9_clear.name) (hroom : 0 + 2 ≤ R.frames ∧ 60 * (0 + 2) ≤ R.locals) {rr : xM} (hE : xEnd l D cA sA cX9_clear 1 none R 0 0 none rr p e S0 m ag below meth c0 A0 M0 ad0 Z) (fu : Nat) (s : Nat) (M : xM) (h : F_X9_clear fu s M = some rr) : xWx p l e R S0 m ag below meth c0 D cA A0 sA M0 ad0 1 Z 0 0 0 0 0 [(0, .inr (.inr (9, some s)))] [] M := by
  rw [← q_X9_clear fu s M] at h
  have hT : ∀ w ∈ xG, w ∈ (Cond.code yX9_clear cX9_clear 1 none :: xG) := fun w hw => List.mem_cons_of_mem _ hw
  refine xrun_sound (nst := 0) (isInit := false) (kd := kdX9) X (xcls_mono hT xclsG) (xpool_mono hT plX9) (fun z => by cases z) (fun idx v hf => xkoE_mono hT (koX9_ok _ (xfind_mem hf))) (xents (ca := _) ?_) (endV hE).1 (endV hE).2 (xcuts (cu := _) ?_) pr_X9_clear.1 pr_X9_clear.2 _ _ _ _ _ _ _ _ (xat_ok pr_X9_clear.1 pr_X9_clear.2).1 (xat_ok pr_X9_clear.1 pr_X9_clear.2).2.1 (xat_ok pr_X9_clear.1 pr_X9_clear.2).2.2 h
  · exact (fun _ h => nomatch h)
  · exact (fun _ h => nomatch h)

theorem ok_X9_clear (l : Launch) (D : va_G) (cA : Nat → ClassId) (sA : Nat → Nat) (fu : Nat) (s : Nat) (M : xM) {rr : xM} (h : F_X9_clear fu s M = some rr) : xMet l D cA sA yX9_clear cX9_clear 1 none xG (0 + 1) 0 0 [.inr (.inr (9, some s))] M none rr :=
  xmet_of (by decide +kernel) (Nat.le_of_ble_eq_true rfl) (fun p e s1 m ag below meth c0 A0 ad0 Z X hn hE => wx_X9_clear X hn ⟨Nat.le_refl _, Nat.le_refl _⟩ hE fu s M h)
theorem hw_X9_clear (l : Launch) (D : va_G) (cA : Nat → ClassId) (sA : Nat → Nat) (fu : Nat) {ρ : Type} {r0 : ρ} (kd1 : Nat) : ∀ (as : List xV) (M : xM) (k : Option xV → xM → Option ρ), w_X9_clear fu as M k = some r0 → ∃ v M', xMet l D cA sA yX9_clear cX9_clear 1 none xG (0 + 1) 0 0 as M v M' ∧ k v M' = some r0 ∧ (kd1 ≠ 2 → ∃ a as', as = .inr (.inr (9, some a)) :: as') := by
  intro as M k h
  unfold w_X9_clear at h
  replace h := pR_some h
  obtain ⟨o, as1, rfl, h⟩ := h
  replace h := bd_some h
  obtain ⟨s, rfl, h⟩ := h
  replace h := xe_some h
  obtain ⟨rfl, h⟩ := h
  obtain ⟨p1, hp, h⟩ := Option.bind_eq_some_iff.mp h
  exact ⟨_, _, ok_X9_clear l D cA sA fu s M hp, h, fun _ => ⟨_, _, rfl⟩⟩
theorem cd_X1_clear : Cond.code yX1_clear cX1_clear 1 none ∈ xG := (xg 870 (by decide +kernel) (by decide +kernel))
theorem pr_X1_clear : (∀ e ∈ pX1_clear, xrow cX1_clear 1 kdX1 flX1 0 false RX1 e) ∧ xnext pX1_clear = true := xrows (by decide +kernel)
set_option maxRecDepth 100000 in
theorem wx_X1_clear (X : xCtx p R S0 m ag c0 D cA A0 sA 1 cX1_clear RX1 (.code yX1_clear cX1_clear 1 none :: xG) 0 0) (hi : meth.name = yX1_clear.name) (hroom : 0 + 2 ≤ R.frames ∧ 60 * (0 + 2) ≤ R.locals) {rr : xM} (hE : xEnd l D cA sA cX1_clear 1 none R 0 0 none rr p e S0 m ag below meth c0 A0 M0 ad0 Z) (fu : Nat) (s : Nat) (M : xM) (h : F_X1_clear fu s M = some rr) : xWx p l e R S0 m ag below meth c0 D cA A0 sA M0 ad0 1 Z 0 0 0 0 0 [(0, .inr (.inr (1, some s)))] [] M := by
  rw [← q_X1_clear fu s M] at h
  have hT : ∀ w ∈ xG, w ∈ (Cond.code yX1_clear cX1_clear 1 none :: xG) := fun w hw => List.mem_cons_of_mem _ hw
  refine xrun_sound (nst := 0) (isInit := false) (kd := kdX1) X (xcls_mono hT xclsG) (xpool_mono hT plX1) (fun z => by cases z) (fun idx v hf => xkoE_mono hT (koX1_ok _ (xfind_mem hf))) (xents (ca := _) ?_) (endV hE).1 (endV hE).2 (xcuts (cu := _) ?_) pr_X1_clear.1 pr_X1_clear.2 _ _ _ _ _ _ _ _ (xat_ok pr_X1_clear.1 pr_X1_clear.2).1 (xat_ok pr_X1_clear.1 pr_X1_clear.2).2.1 (xat_ok pr_X1_clear.1 pr_X1_clear.2).2.2 h
  · exact (fun _ h => nomatch h)
  · exact (fun _ h => nomatch h)

theorem ok_X1_clear (l : Launch) (D : va_G) (cA : Nat → ClassId) (sA : Nat → Nat) (fu : Nat) (s : Nat) (M : xM) {rr : xM} (h : F_X1_clear fu s M = some rr) : xMet l D cA sA yX1_clear cX1_clear 1 none xG (0 + 1) 0 0 [.inr (.inr (1, some s))] M none rr :=
  xmet_of (by decide +kernel) (Nat.le_of_ble_eq_true rfl) (fun p e s1 m ag below meth c0 A0 ad0 Z X hn hE => wx_X1_clear X hn ⟨Nat.le_refl _, Nat.le_refl _⟩ hE fu s M h)
theorem hw_X1_clear (l : Launch) (D : va_G) (cA : Nat → ClassId) (sA : Nat → Nat) (fu : Nat) {ρ : Type} {r0 : ρ} (kd1 : Nat) : ∀ (as : List xV) (M : xM) (k : Option xV → xM → Option ρ), w_X1_clear fu as M k = some r0 → ∃ v M', xMet l D cA sA yX1_clear cX1_clear 1 none xG (0 + 1) 0 0 as M v M' ∧ k v M' = some r0 ∧ (kd1 ≠ 2 → ∃ a as', as = .inr (.inr (1, some a)) :: as') := by
  intro as M k h
  unfold w_X1_clear at h
  replace h := pR_some h
  obtain ⟨o, as1, rfl, h⟩ := h
  replace h := bd_some h
  obtain ⟨s, rfl, h⟩ := h
  replace h := xe_some h
  obtain ⟨rfl, h⟩ := h
  obtain ⟨p1, hp, h⟩ := Option.bind_eq_some_iff.mp h
  exact ⟨_, _, ok_X1_clear l D cA sA fu s M hp, h, fun _ => ⟨_, _, rfl⟩⟩
theorem cd_X5_forget : Cond.code yX5_forget cX5_forget 1 none ∈ xG := (xg 874 (by decide +kernel) (by decide +kernel))
theorem pr_X5_forget : (∀ e ∈ pX5_forget, xrow cX5_forget 1 kdX5 flX5 0 false RX5 e) ∧ xnext pX5_forget = true := xrows (by decide +kernel)
set_option maxRecDepth 100000 in
theorem wx_X5_forget (X : xCtx p R S0 m ag c0 D cA A0 sA 1 cX5_forget RX5 (.code yX5_forget cX5_forget 1 none :: xG) 0 0) (hi : meth.name = yX5_forget.name) (hroom : 0 + 2 ≤ R.frames ∧ 60 * (0 + 2) ≤ R.locals) {rr : xM} (hE : xEnd l D cA sA cX5_forget 1 none R 0 0 none rr p e S0 m ag below meth c0 A0 M0 ad0 Z) (fu : Nat) (s : Nat) (M : xM) (h : F_X5_forget fu s M = some rr) : xWx p l e R S0 m ag below meth c0 D cA A0 sA M0 ad0 1 Z 0 0 0 0 0 [(0, .inr (.inr (5, some s)))] [] M := by
  rw [← q_X5_forget fu s M] at h
  have hT : ∀ w ∈ xG, w ∈ (Cond.code yX5_forget cX5_forget 1 none :: xG) := fun w hw => List.mem_cons_of_mem _ hw
  refine xrun_sound (nst := 0) (isInit := false) (kd := kdX5) X (xcls_mono hT xclsG) (xpool_mono hT plX5) (fun z => by cases z) (fun idx v hf => xkoE_mono hT (koX5_ok _ (xfind_mem hf))) (xents (ca := _) ?_) (endV hE).1 (endV hE).2 (xcuts (cu := _) ?_) pr_X5_forget.1 pr_X5_forget.2 _ _ _ _ _ _ _ _ (xat_ok pr_X5_forget.1 pr_X5_forget.2).1 (xat_ok pr_X5_forget.1 pr_X5_forget.2).2.1 (xat_ok pr_X5_forget.1 pr_X5_forget.2).2.2 h
  · exact (fun _ h => nomatch h)
  · exact (fun _ h => nomatch h)

theorem ok_X5_forget (l : Launch) (D : va_G) (cA : Nat → ClassId) (sA : Nat → Nat) (fu : Nat) (s : Nat) (M : xM) {rr : xM} (h : F_X5_forget fu s M = some rr) : xMet l D cA sA yX5_forget cX5_forget 1 none xG (0 + 1) 0 0 [.inr (.inr (5, some s))] M none rr :=
  xmet_of (by decide +kernel) (Nat.le_of_ble_eq_true rfl) (fun p e s1 m ag below meth c0 A0 ad0 Z X hn hE => wx_X5_forget X hn ⟨Nat.le_refl _, Nat.le_refl _⟩ hE fu s M h)
theorem hw_X5_forget (l : Launch) (D : va_G) (cA : Nat → ClassId) (sA : Nat → Nat) (fu : Nat) {ρ : Type} {r0 : ρ} (kd1 : Nat) : ∀ (as : List xV) (M : xM) (k : Option xV → xM → Option ρ), w_X5_forget fu as M k = some r0 → ∃ v M', xMet l D cA sA yX5_forget cX5_forget 1 none xG (0 + 1) 0 0 as M v M' ∧ k v M' = some r0 ∧ (kd1 ≠ 2 → ∃ a as', as = .inr (.inr (5, some a)) :: as') := by
  intro as M k h
  unfold w_X5_forget at h
  replace h := pR_some h
  obtain ⟨o, as1, rfl, h⟩ := h
  replace h := bd_some h
  obtain ⟨s, rfl, h⟩ := h
  replace h := xe_some h
  obtain ⟨rfl, h⟩ := h
  obtain ⟨p1, hp, h⟩ := Option.bind_eq_some_iff.mp h
  exact ⟨_, _, ok_X5_forget l D cA sA fu s M hp, h, fun _ => ⟨_, _, rfl⟩⟩
theorem lk_X11_109 : xLink xG RX11 109 0 yX2_start 1 := ⟨Or.inl (xg 855 (by decide +kernel) (by decide +kernel)), (xg 856 (by decide +kernel) (by decide +kernel)), (xg 857 (by decide +kernel) (by decide +kernel)), (xg 134 (by decide +kernel) (by decide +kernel)), ⟨2, by decide, TX2, 16, rfl⟩⟩
theorem lk_X11_113 : xLink xG RX11 113 0 yX9_clear 0 := ⟨Or.inl (xg 863 (by decide +kernel) (by decide +kernel)), (xg 864 (by decide +kernel) (by decide +kernel)), (xg 865 (by decide +kernel) (by decide +kernel)), (xg 132 (by decide +kernel) (by decide +kernel)), ⟨9, by decide, TX9, 5, rfl⟩⟩
theorem lk_X11_116 : xLink xG RX11 116 0 yX1_clear 0 := ⟨Or.inl (xg 867 (by decide +kernel) (by decide +kernel)), (xg 868 (by decide +kernel) (by decide +kernel)), (xg 869 (by decide +kernel) (by decide +kernel)), (xg 137 (by decide +kernel) (by decide +kernel)), ⟨1, by decide, TX1, 4, rfl⟩⟩
theorem lk_X11_117 : xLink xG RX11 117 0 yX5_forget 0 := ⟨Or.inl (xg 871 (by decide +kernel) (by decide +kernel)), (xg 872 (by decide +kernel) (by decide +kernel)), (xg 873 (by decide +kernel) (by decide +kernel)), (xg 138 (by decide +kernel) (by decide +kernel)), ⟨5, by decide, TX5, 7, rfl⟩⟩
theorem cd_X11_startAnew : Cond.code yX11_startAnew cX11_startAnew 1 none ∈ xG := (xg 854 (by decide +kernel) (by decide +kernel))
theorem pr_X11_startAnew : (∀ e ∈ pX11_startAnew, xrow cX11_startAnew 1 kdX11 flX11 0 false RX11 e) ∧ xnext pX11_startAnew = true := xrows (by decide +kernel)
set_option maxRecDepth 100000 in
theorem wx_X11_startAnew (X : xCtx p R S0 m ag c0 D cA A0 sA 1 cX11_startAnew RX11 (.code yX11_startAnew cX11_startAnew 1 none :: xG) 0 0) (hi : meth.name = yX11_startAnew.name) (hroom : 8 + 2 ≤ R.frames ∧ 60 * (8 + 2) ≤ R.locals) {rr : xM} (hE : xEnd l D cA sA cX11_startAnew 1 none R 0 0 none rr p e S0 m ag below meth c0 A0 M0 ad0 Z) (fu : Nat) (s : Nat) (M : xM) (h : F_X11_startAnew fu s M = some rr) : xWx p l e R S0 m ag below meth c0 D cA A0 sA M0 ad0 1 Z 0 0 0 0 0 [(0, .inr (.inr (11, some s)))] [] M := by
  rw [← q_X11_startAnew fu s M] at h
  have hT : ∀ w ∈ xG, w ∈ (Cond.code yX11_startAnew cX11_startAnew 1 none :: xG) := fun w hw => List.mem_cons_of_mem _ hw
  refine xrun_sound (nst := 0) (isInit := false) (kd := kdX11) X (xcls_mono hT xclsG) (xpool_mono hT plX11) (fun z => by cases z) (fun idx v hf => xkoE_mono hT (koX11_ok _ (xfind_mem hf))) (xents (ca := _) ?_) (endV hE).1 (endV hE).2 (xcuts (cu := _) ?_) pr_X11_startAnew.1 pr_X11_startAnew.2 _ _ _ _ _ _ _ _ (xat_ok pr_X11_startAnew.1 pr_X11_startAnew.2).1 (xat_ok pr_X11_startAnew.1 pr_X11_startAnew.2).2.1 (xat_ok pr_X11_startAnew.1 pr_X11_startAnew.2).2.2 h
  · exact (List.forall_mem_cons.mpr ⟨(xent_met X (ci := 2) hT cd_X2_start lk_X11_109 rfl (by decide) rfl (by decide +kernel) (fun z => absurd z (by decide)) (hw_X2_start l D cA sA fu 0) (fun _ => ⟨by decide, fun _ => ⟨TX2, 16, rfl⟩⟩) (by constructor <;> omega) (by decide)), (List.forall_mem_cons.mpr ⟨(xent_met X (ci := 9) hT cd_X9_clear lk_X11_113 rfl (by decide) rfl (by decide +kernel) (fun z => absurd z (by decide)) (hw_X9_clear l D cA sA fu 0) (fun _ => ⟨by decide, fun _ => ⟨TX9, 5, rfl⟩⟩) (by constructor <;> omega) (by decide)), (List.forall_mem_cons.mpr ⟨(xent_met X (ci := 1) hT cd_X1_clear lk_X11_116 rfl (by decide) rfl (by decide +kernel) (fun z => absurd z (by decide)) (hw_X1_clear l D cA sA fu 0) (fun _ => ⟨by decide, fun _ => ⟨TX1, 4, rfl⟩⟩) (by constructor <;> omega) (by decide)), (List.forall_mem_cons.mpr ⟨(xent_met X (ci := 5) hT cd_X5_forget lk_X11_117 rfl (by decide) rfl (by decide +kernel) (fun z => absurd z (by decide)) (hw_X5_forget l D cA sA fu 0) (fun _ => ⟨by decide, fun _ => ⟨TX5, 7, rfl⟩⟩) (by constructor <;> omega) (by decide)), (fun _ h => nomatch h)⟩)⟩)⟩)⟩)
  · exact (fun _ h => nomatch h)

theorem ok_X11_startAnew (l : Launch) (D : va_G) (cA : Nat → ClassId) (sA : Nat → Nat) (fu : Nat) (s : Nat) (M : xM) {rr : xM} (h : F_X11_startAnew fu s M = some rr) : xMet l D cA sA yX11_startAnew cX11_startAnew 1 none xG (8 + 1) 0 0 [.inr (.inr (11, some s))] M none rr :=
  xmet_of (by decide +kernel) (Nat.le_of_ble_eq_true rfl) (fun p e s1 m ag below meth c0 A0 ad0 Z X hn hE => wx_X11_startAnew X hn ⟨Nat.le_refl _, Nat.le_refl _⟩ hE fu s M h)
theorem hw_X11_startAnew (l : Launch) (D : va_G) (cA : Nat → ClassId) (sA : Nat → Nat) (fu : Nat) {ρ : Type} {r0 : ρ} (kd1 : Nat) : ∀ (as : List xV) (M : xM) (k : Option xV → xM → Option ρ), w_X11_startAnew fu as M k = some r0 → ∃ v M', xMet l D cA sA yX11_startAnew cX11_startAnew 1 none xG (8 + 1) 0 0 as M v M' ∧ k v M' = some r0 ∧ (kd1 ≠ 2 → ∃ a as', as = .inr (.inr (11, some a)) :: as') := by
  intro as M k h
  unfold w_X11_startAnew at h
  replace h := pR_some h
  obtain ⟨o, as1, rfl, h⟩ := h
  replace h := bd_some h
  obtain ⟨s, rfl, h⟩ := h
  replace h := xe_some h
  obtain ⟨rfl, h⟩ := h
  obtain ⟨p1, hp, h⟩ := Option.bind_eq_some_iff.mp h
  exact ⟨_, _, ok_X11_startAnew l D cA sA fu s M hp, h, fun _ => ⟨_, _, rfl⟩⟩
theorem cd_X7_clear : Cond.code yX7_clear cX7_clear 1 none ∈ xG := (xg 646 (by decide +kernel) (by decide +kernel))
theorem pr_X7_clear : (∀ e ∈ pX7_clear, xrow cX7_clear 1 kdX7 flX7 0 false RX7 e) ∧ xnext pX7_clear = true := xrows (by decide +kernel)
set_option maxRecDepth 100000 in
theorem wx_X7_clear (X : xCtx p R S0 m ag c0 D cA A0 sA 1 cX7_clear RX7 (.code yX7_clear cX7_clear 1 none :: xG) 0 0) (hi : meth.name = yX7_clear.name) (hroom : 0 + 2 ≤ R.frames ∧ 60 * (0 + 2) ≤ R.locals) {rr : xM} (hE : xEnd l D cA sA cX7_clear 1 none R 0 0 none rr p e S0 m ag below meth c0 A0 M0 ad0 Z) (fu : Nat) (s : Nat) (M : xM) (h : F_X7_clear fu s M = some rr) : xWx p l e R S0 m ag below meth c0 D cA A0 sA M0 ad0 1 Z 0 0 0 0 0 [(0, .inr (.inr (7, some s)))] [] M := by
  rw [← q_X7_clear fu s M] at h
  have hT : ∀ w ∈ xG, w ∈ (Cond.code yX7_clear cX7_clear 1 none :: xG) := fun w hw => List.mem_cons_of_mem _ hw
  refine xrun_sound (nst := 0) (isInit := false) (kd := kdX7) X (xcls_mono hT xclsG) (xpool_mono hT plX7) (fun z => by cases z) (fun idx v hf => xkoE_mono hT (koX7_ok _ (xfind_mem hf))) (xents (ca := _) ?_) (endV hE).1 (endV hE).2 (xcuts (cu := _) ?_) pr_X7_clear.1 pr_X7_clear.2 _ _ _ _ _ _ _ _ (xat_ok pr_X7_clear.1 pr_X7_clear.2).1 (xat_ok pr_X7_clear.1 pr_X7_clear.2).2.1 (xat_ok pr_X7_clear.1 pr_X7_clear.2).2.2 h
  · exact (fun _ h => nomatch h)
  · exact (fun _ h => nomatch h)

theorem ok_X7_clear (l : Launch) (D : va_G) (cA : Nat → ClassId) (sA : Nat → Nat) (fu : Nat) (s : Nat) (M : xM) {rr : xM} (h : F_X7_clear fu s M = some rr) : xMet l D cA sA yX7_clear cX7_clear 1 none xG (0 + 1) 0 0 [.inr (.inr (7, some s))] M none rr :=
  xmet_of (by decide +kernel) (Nat.le_of_ble_eq_true rfl) (fun p e s1 m ag below meth c0 A0 ad0 Z X hn hE => wx_X7_clear X hn ⟨Nat.le_refl _, Nat.le_refl _⟩ hE fu s M h)
theorem hw_X7_clear (l : Launch) (D : va_G) (cA : Nat → ClassId) (sA : Nat → Nat) (fu : Nat) {ρ : Type} {r0 : ρ} (kd1 : Nat) : ∀ (as : List xV) (M : xM) (k : Option xV → xM → Option ρ), w_X7_clear fu as M k = some r0 → ∃ v M', xMet l D cA sA yX7_clear cX7_clear 1 none xG (0 + 1) 0 0 as M v M' ∧ k v M' = some r0 ∧ (kd1 ≠ 2 → ∃ a as', as = .inr (.inr (7, some a)) :: as') := by
  intro as M k h
  unfold w_X7_clear at h
  replace h := pR_some h
  obtain ⟨o, as1, rfl, h⟩ := h
  replace h := bd_some h
  obtain ⟨s, rfl, h⟩ := h
  replace h := xe_some h
  obtain ⟨rfl, h⟩ := h
  obtain ⟨p1, hp, h⟩ := Option.bind_eq_some_iff.mp h
  exact ⟨_, _, ok_X7_clear l D cA sA fu s M hp, h, fun _ => ⟨_, _, rfl⟩⟩
theorem cd_X7_fileNamed : Cond.code yX7_fileNamed cX7_fileNamed 4 (some .int) ∈ xG := (xg 802 (by decide +kernel) (by decide +kernel))
theorem pr_X7_fileNamed : (∀ e ∈ pX7_fileNamed, xrow cX7_fileNamed 4 kdX7 flX7 0 false RX7 e) ∧ xnext pX7_fileNamed = true := xrows (by decide +kernel)
set_option maxRecDepth 100000 in
theorem wx_X7_fileNamed_2 (X : xCtx p R S0 m ag c0 D cA A0 sA 4 cX7_fileNamed RX7 (.code yX7_fileNamed cX7_fileNamed 4 (some .int) :: xG) 0 0) (hi : meth.name = yX7_fileNamed.name) (hroom : 0 + 2 ≤ R.frames ∧ 60 * (0 + 2) ≤ R.locals) {rr : Int32 × xM} (hE : xEnd l D cA sA cX7_fileNamed 4 (some .int) R 0 0 (some (.inl rr.1)) rr.2 p e S0 m ag below meth c0 A0 M0 ad0 Z) (fu : Nat) : ∀ (n : Nat) (s : Nat) (x1 : Int64) (x3 : Int32) (M : xM), L_X7_fileNamed_2 fu n s x1 x3 M = some rr → xWx p l e R S0 m ag below meth c0 D cA A0 sA M0 ad0 4 Z 0 0 2 0 0 [(0, .inr (.inr (7, some s))), (1, .inr (.inl x1)), (3, .inl x3)] [] M := by
  intro n
  induction n with
  | zero => intro s x1 x3 M h; cases h
  | succ n ih =>
    intro s x1 x3 M h
    rw [← q_X7_fileNamed_2 fu n s x1 x3 M] at h
    have hT : ∀ w ∈ xG, w ∈ (Cond.code yX7_fileNamed cX7_fileNamed 4 (some .int) :: xG) := fun w hw => List.mem_cons_of_mem _ hw
    refine xrun_sound (nst := 0) (isInit := false) (kd := kdX7) X (xcls_mono hT xclsG) (xpool_mono hT plX7) (fun z => by cases z) (fun idx v hf => xkoE_mono hT (koX7_ok _ (xfind_mem hf))) (xents (ca := _) ?_) (endI hE).1 (endI hE).2 (xcuts (cu := _) ?_) pr_X7_fileNamed.1 pr_X7_fileNamed.2 _ _ _ _ _ _ _ _ (xat_ok pr_X7_fileNamed.1 pr_X7_fileNamed.2).1 (xat_ok pr_X7_fileNamed.1 pr_X7_fileNamed.2).2.1 (xat_ok pr_X7_fileNamed.1 pr_X7_fileNamed.2).2.2 h
    · exact (fun _ h => nomatch h)
    · refine (List.forall_mem_cons.mpr ⟨?_, (fun _ h => nomatch h)⟩)
      · intro bc bs ls st M h
        replace h := xz_some h
        obtain ⟨rfl, rfl, h⟩ := h
        replace h := lR_some h
        obtain ⟨o, e0, h⟩ := h
        replace h := bd_some h
        obtain ⟨s', rfl, h⟩ := h
        replace h := lL_some h
        obtain ⟨x1', e1, h⟩ := h
        replace h := lI_some h
        obtain ⟨x3', e3, h⟩ := h
        replace h := xe_some h
        obtain ⟨rfl, h⟩ := h
        exact xWx_ls (ih s' x1' x3' M h) (List.forall_mem_cons.mpr ⟨e0, (List.forall_mem_cons.mpr ⟨e1, (List.forall_mem_cons.mpr ⟨e3, (fun _ h => nomatch h)⟩)⟩)⟩)

set_option maxRecDepth 100000 in
theorem wx_X7_fileNamed (X : xCtx p R S0 m ag c0 D cA A0 sA 4 cX7_fileNamed RX7 (.code yX7_fileNamed cX7_fileNamed 4 (some .int) :: xG) 0 0) (hi : meth.name = yX7_fileNamed.name) (hroom : 0 + 2 ≤ R.frames ∧ 60 * (0 + 2) ≤ R.locals) {rr : Int32 × xM} (hE : xEnd l D cA sA cX7_fileNamed 4 (some .int) R 0 0 (some (.inl rr.1)) rr.2 p e S0 m ag below meth c0 A0 M0 ad0 Z) (fu : Nat) (s : Nat) (x1 : Int64) (M : xM) (h : F_X7_fileNamed fu s x1 M = some rr) : xWx p l e R S0 m ag below meth c0 D cA A0 sA M0 ad0 4 Z 0 0 0 0 0 [(0, .inr (.inr (7, some s))), (1, .inr (.inl x1))] [] M := by
  rw [← q_X7_fileNamed fu s x1 M] at h
  have hT : ∀ w ∈ xG, w ∈ (Cond.code yX7_fileNamed cX7_fileNamed 4 (some .int) :: xG) := fun w hw => List.mem_cons_of_mem _ hw
  refine xrun_sound (nst := 0) (isInit := false) (kd := kdX7) X (xcls_mono hT xclsG) (xpool_mono hT plX7) (fun z => by cases z) (fun idx v hf => xkoE_mono hT (koX7_ok _ (xfind_mem hf))) (xents (ca := _) ?_) (endI hE).1 (endI hE).2 (xcuts (cu := _) ?_) pr_X7_fileNamed.1 pr_X7_fileNamed.2 _ _ _ _ _ _ _ _ (xat_ok pr_X7_fileNamed.1 pr_X7_fileNamed.2).1 (xat_ok pr_X7_fileNamed.1 pr_X7_fileNamed.2).2.1 (xat_ok pr_X7_fileNamed.1 pr_X7_fileNamed.2).2.2 h
  · exact (fun _ h => nomatch h)
  · refine (List.forall_mem_cons.mpr ⟨?_, (fun _ h => nomatch h)⟩)
    · intro bc bs ls st M h
      replace h := xz_some h
      obtain ⟨rfl, rfl, h⟩ := h
      replace h := lR_some h
      obtain ⟨o, e0, h⟩ := h
      replace h := bd_some h
      obtain ⟨s', rfl, h⟩ := h
      replace h := lL_some h
      obtain ⟨x1', e1, h⟩ := h
      replace h := lI_some h
      obtain ⟨x3', e3, h⟩ := h
      replace h := xe_some h
      obtain ⟨rfl, h⟩ := h
      exact xWx_ls (wx_X7_fileNamed_2 X hi hroom hE fu fu s' x1' x3' M h) (List.forall_mem_cons.mpr ⟨e0, (List.forall_mem_cons.mpr ⟨e1, (List.forall_mem_cons.mpr ⟨e3, (fun _ h => nomatch h)⟩)⟩)⟩)

theorem ok_X7_fileNamed (l : Launch) (D : va_G) (cA : Nat → ClassId) (sA : Nat → Nat) (fu : Nat) (s : Nat) (x1 : Int64) (M : xM) {rr : Int32 × xM} (h : F_X7_fileNamed fu s x1 M = some rr) : xMet l D cA sA yX7_fileNamed cX7_fileNamed 4 (some .int) xG (0 + 1) 0 0 [.inr (.inr (7, some s)), .inr (.inl x1)] M (some (.inl rr.1)) rr.2 :=
  xmet_of (by decide +kernel) (Nat.le_of_ble_eq_true rfl) (fun p e s1 m ag below meth c0 A0 ad0 Z X hn hE => wx_X7_fileNamed X hn ⟨Nat.le_refl _, Nat.le_refl _⟩ hE fu s x1 M h)
theorem hw_X7_fileNamed (l : Launch) (D : va_G) (cA : Nat → ClassId) (sA : Nat → Nat) (fu : Nat) {ρ : Type} {r0 : ρ} (kd1 : Nat) : ∀ (as : List xV) (M : xM) (k : Option xV → xM → Option ρ), w_X7_fileNamed fu as M k = some r0 → ∃ v M', xMet l D cA sA yX7_fileNamed cX7_fileNamed 4 (some .int) xG (0 + 1) 0 0 as M v M' ∧ k v M' = some r0 ∧ (kd1 ≠ 2 → ∃ a as', as = .inr (.inr (7, some a)) :: as') := by
  intro as M k h
  unfold w_X7_fileNamed at h
  replace h := pR_some h
  obtain ⟨o, as1, rfl, h⟩ := h
  replace h := bd_some h
  obtain ⟨s, rfl, h⟩ := h
  replace h := pL_some h
  obtain ⟨x1, as1, rfl, h⟩ := h
  replace h := xe_some h
  obtain ⟨rfl, h⟩ := h
  obtain ⟨p1, hp, h⟩ := Option.bind_eq_some_iff.mp h
  exact ⟨_, _, ok_X7_fileNamed l D cA sA fu s x1 M hp, h, fun _ => ⟨_, _, rfl⟩⟩
theorem lk_X7_77 : xLink xG RX7 77 0 yX10_fail 1 := ⟨Or.inl (xg 790 (by decide +kernel) (by decide +kernel)), (xg 791 (by decide +kernel) (by decide +kernel)), (xg 792 (by decide +kernel) (by decide +kernel)), (xg 129 (by decide +kernel) (by decide +kernel)), ⟨10, by decide, TX10, 10, rfl⟩⟩
theorem lk_X7_80 : xLink xG RX7 80 0 yX10_next 0 := ⟨Or.inl (xg 794 (by decide +kernel) (by decide +kernel)), (xg 652 (by decide +kernel) (by decide +kernel)), (xg 653 (by decide +kernel) (by decide +kernel)), (xg 129 (by decide +kernel) (by decide +kernel)), ⟨10, by decide, TX10, 10, rfl⟩⟩
theorem lk_X7_83 : xLink xG RX7 83 0 yX10_takeNumber 2 := ⟨Or.inl (xg 803 (by decide +kernel) (by decide +kernel)), (xg 804 (by decide +kernel) (by decide +kernel)), (xg 805 (by decide +kernel) (by decide +kernel)), (xg 129 (by decide +kernel) (by decide +kernel)), ⟨10, by decide, TX10, 10, rfl⟩⟩
theorem lk_X7_90 : xLink xG RX7 90 0 yX10_isName 0 := ⟨Or.inl (xg 795 (by decide +kernel) (by decide +kernel)), (xg 796 (by decide +kernel) (by decide +kernel)), (xg 797 (by decide +kernel) (by decide +kernel)), (xg 129 (by decide +kernel) (by decide +kernel)), ⟨10, by decide, TX10, 10, rfl⟩⟩
theorem lk_X7_98 : xLink xG RX7 98 0 yX7_fileNamed 1 := ⟨Or.inl (xg 799 (by decide +kernel) (by decide +kernel)), (xg 800 (by decide +kernel) (by decide +kernel)), (xg 801 (by decide +kernel) (by decide +kernel)), (xg 130 (by decide +kernel) (by decide +kernel)), ⟨7, by decide, TX7, 9, rfl⟩⟩
theorem cd_X7_readFile : Cond.code yX7_readFile cX7_readFile 6 (some .boolean) ∈ xG := (xg 789 (by decide +kernel) (by decide +kernel))
theorem pr_X7_readFile : (∀ e ∈ pX7_readFile, xrow cX7_readFile 6 kdX7 flX7 0 false RX7 e) ∧ xnext pX7_readFile = true := xrows (by decide +kernel)
set_option maxRecDepth 100000 in
theorem wx_X7_readFile (X : xCtx p R S0 m ag c0 D cA A0 sA 6 cX7_readFile RX7 (.code yX7_readFile cX7_readFile 6 (some .boolean) :: xG) 0 0) (hi : meth.name = yX7_readFile.name) (hroom : 9 + 2 ≤ R.frames ∧ 60 * (9 + 2) ≤ R.locals) {rr : Int32 × xM} (hE : xEnd l D cA sA cX7_readFile 6 (some .boolean) R 0 0 (some (.inl rr.1)) rr.2 p e S0 m ag below meth c0 A0 M0 ad0 Z) (fu : Nat) (s : Nat) (x1 : Option Nat) (M : xM) (h : F_X7_readFile fu s x1 M = some rr) : xWx p l e R S0 m ag below meth c0 D cA A0 sA M0 ad0 6 Z 0 0 0 0 0 [(0, .inr (.inr (7, some s))), (1, .inr (.inr (10, x1)))] [] M := by
  rw [← q_X7_readFile fu s x1 M] at h
  have hT : ∀ w ∈ xG, w ∈ (Cond.code yX7_readFile cX7_readFile 6 (some .boolean) :: xG) := fun w hw => List.mem_cons_of_mem _ hw
  refine xrun_sound (nst := 0) (isInit := false) (kd := kdX7) X (xcls_mono hT xclsG) (xpool_mono hT plX7) (fun z => by cases z) (fun idx v hf => xkoE_mono hT (koX7_ok _ (xfind_mem hf))) (xents (ca := _) ?_) (endZ hE).1 (endZ hE).2 (xcuts (cu := _) ?_) pr_X7_readFile.1 pr_X7_readFile.2 _ _ _ _ _ _ _ _ (xat_ok pr_X7_readFile.1 pr_X7_readFile.2).1 (xat_ok pr_X7_readFile.1 pr_X7_readFile.2).2.1 (xat_ok pr_X7_readFile.1 pr_X7_readFile.2).2.2 h
  · exact (List.forall_mem_cons.mpr ⟨(xent_met X (ci := 10) hT cd_X10_fail lk_X7_77 rfl (by decide) rfl (by decide +kernel) (fun z => absurd z (by decide)) (hw_X10_fail l D cA sA fu 0) (fun _ => ⟨by decide, fun _ => ⟨TX10, 10, rfl⟩⟩) (by constructor <;> omega) (by decide)), (List.forall_mem_cons.mpr ⟨(xent_met X (ci := 10) hT cd_X10_next lk_X7_80 rfl (by decide) rfl (by decide +kernel) (fun z => absurd z (by decide)) (hw_X10_next l D cA sA fu 0) (fun _ => ⟨by decide, fun _ => ⟨TX10, 10, rfl⟩⟩) (by constructor <;> omega) (by decide)), (List.forall_mem_cons.mpr ⟨(xent_met X (ci := 10) hT cd_X10_takeNumber lk_X7_83 rfl (by decide) rfl (by decide +kernel) (fun z => absurd z (by decide)) (hw_X10_takeNumber l D cA sA fu 0) (fun _ => ⟨by decide, fun _ => ⟨TX10, 10, rfl⟩⟩) (by constructor <;> omega) (by decide)), (List.forall_mem_cons.mpr ⟨(xent_met X (ci := 10) hT cd_X10_isName lk_X7_90 rfl (by decide) rfl (by decide +kernel) (fun z => absurd z (by decide)) (hw_X10_isName l D cA sA fu 0) (fun _ => ⟨by decide, fun _ => ⟨TX10, 10, rfl⟩⟩) (by constructor <;> omega) (by decide)), (List.forall_mem_cons.mpr ⟨(xent_met X (ci := 7) hT cd_X7_fileNamed lk_X7_98 rfl (by decide) rfl (by decide +kernel) (fun z => absurd z (by decide)) (hw_X7_fileNamed l D cA sA fu 0) (fun _ => ⟨by decide, fun _ => ⟨TX7, 9, rfl⟩⟩) (by constructor <;> omega) (by decide)), (fun _ h => nomatch h)⟩)⟩)⟩)⟩)⟩)
  · exact (fun _ h => nomatch h)

theorem ok_X7_readFile (l : Launch) (D : va_G) (cA : Nat → ClassId) (sA : Nat → Nat) (fu : Nat) (s : Nat) (x1 : Option Nat) (M : xM) {rr : Int32 × xM} (h : F_X7_readFile fu s x1 M = some rr) : xMet l D cA sA yX7_readFile cX7_readFile 6 (some .boolean) xG (9 + 1) 0 0 [.inr (.inr (7, some s)), .inr (.inr (10, x1))] M (some (.inl rr.1)) rr.2 :=
  xmet_of (by decide +kernel) (Nat.le_of_ble_eq_true rfl) (fun p e s1 m ag below meth c0 A0 ad0 Z X hn hE => wx_X7_readFile X hn ⟨Nat.le_refl _, Nat.le_refl _⟩ hE fu s x1 M h)
theorem hw_X7_readFile (l : Launch) (D : va_G) (cA : Nat → ClassId) (sA : Nat → Nat) (fu : Nat) {ρ : Type} {r0 : ρ} (kd1 : Nat) : ∀ (as : List xV) (M : xM) (k : Option xV → xM → Option ρ), w_X7_readFile fu as M k = some r0 → ∃ v M', xMet l D cA sA yX7_readFile cX7_readFile 6 (some .boolean) xG (9 + 1) 0 0 as M v M' ∧ k v M' = some r0 ∧ (kd1 ≠ 2 → ∃ a as', as = .inr (.inr (7, some a)) :: as') := by
  intro as M k h
  unfold w_X7_readFile at h
  replace h := pR_some h
  obtain ⟨o, as1, rfl, h⟩ := h
  replace h := bd_some h
  obtain ⟨s, rfl, h⟩ := h
  replace h := pR_some h
  obtain ⟨x1, as1, rfl, h⟩ := h
  replace h := xe_some h
  obtain ⟨rfl, h⟩ := h
  obtain ⟨p1, hp, h⟩ := Option.bind_eq_some_iff.mp h
  exact ⟨_, _, ok_X7_readFile l D cA sA fu s x1 M hp, h, fun _ => ⟨_, _, rfl⟩⟩
theorem cd_X8_emit : Cond.code yX8_emit cX8_emit 2 none ∈ xG := (xg 844 (by decide +kernel) (by decide +kernel))
theorem pr_X8_emit : (∀ e ∈ pX8_emit, xrow cX8_emit 2 kdX8 flX8 0 false RX8 e) ∧ xnext pX8_emit = true := xrows (by decide +kernel)
set_option maxRecDepth 100000 in
theorem wx_X8_emit (X : xCtx p R S0 m ag c0 D cA A0 sA 2 cX8_emit RX8 (.code yX8_emit cX8_emit 2 none :: xG) 0 0) (hi : meth.name = yX8_emit.name) (hroom : 0 + 2 ≤ R.frames ∧ 60 * (0 + 2) ≤ R.locals) {rr : xM} (hE : xEnd l D cA sA cX8_emit 2 none R 0 0 none rr p e S0 m ag below meth c0 A0 M0 ad0 Z) (fu : Nat) (s : Nat) (x1 : Int32) (M : xM) (h : F_X8_emit fu s x1 M = some rr) : xWx p l e R S0 m ag below meth c0 D cA A0 sA M0 ad0 2 Z 0 0 0 0 0 [(0, .inr (.inr (8, some s))), (1, .inl x1)] [] M := by
  rw [← q_X8_emit fu s x1 M] at h
  have hT : ∀ w ∈ xG, w ∈ (Cond.code yX8_emit cX8_emit 2 none :: xG) := fun w hw => List.mem_cons_of_mem _ hw
  refine xrun_sound (nst := 0) (isInit := false) (kd := kdX8) X (xcls_mono hT xclsG) (xpool_mono hT plX8) (fun z => by cases z) (fun idx v hf => xkoE_mono hT (koX8_ok _ (xfind_mem hf))) (xents (ca := _) ?_) (endV hE).1 (endV hE).2 (xcuts (cu := _) ?_) pr_X8_emit.1 pr_X8_emit.2 _ _ _ _ _ _ _ _ (xat_ok pr_X8_emit.1 pr_X8_emit.2).1 (xat_ok pr_X8_emit.1 pr_X8_emit.2).2.1 (xat_ok pr_X8_emit.1 pr_X8_emit.2).2.2 h
  · exact (fun _ h => nomatch h)
  · exact (fun _ h => nomatch h)

theorem ok_X8_emit (l : Launch) (D : va_G) (cA : Nat → ClassId) (sA : Nat → Nat) (fu : Nat) (s : Nat) (x1 : Int32) (M : xM) {rr : xM} (h : F_X8_emit fu s x1 M = some rr) : xMet l D cA sA yX8_emit cX8_emit 2 none xG (0 + 1) 0 0 [.inr (.inr (8, some s)), .inl x1] M none rr :=
  xmet_of (by decide +kernel) (Nat.le_of_ble_eq_true rfl) (fun p e s1 m ag below meth c0 A0 ad0 Z X hn hE => wx_X8_emit X hn ⟨Nat.le_refl _, Nat.le_refl _⟩ hE fu s x1 M h)
theorem hw_X8_emit (l : Launch) (D : va_G) (cA : Nat → ClassId) (sA : Nat → Nat) (fu : Nat) {ρ : Type} {r0 : ρ} (kd1 : Nat) : ∀ (as : List xV) (M : xM) (k : Option xV → xM → Option ρ), w_X8_emit fu as M k = some r0 → ∃ v M', xMet l D cA sA yX8_emit cX8_emit 2 none xG (0 + 1) 0 0 as M v M' ∧ k v M' = some r0 ∧ (kd1 ≠ 2 → ∃ a as', as = .inr (.inr (8, some a)) :: as') := by
  intro as M k h
  unfold w_X8_emit at h
  replace h := pR_some h
  obtain ⟨o, as1, rfl, h⟩ := h
  replace h := bd_some h
  obtain ⟨s, rfl, h⟩ := h
  replace h := pI_some h
  obtain ⟨x1, as1, rfl, h⟩ := h
  replace h := xe_some h
  obtain ⟨rfl, h⟩ := h
  obtain ⟨p1, hp, h⟩ := Option.bind_eq_some_iff.mp h
  exact ⟨_, _, ok_X8_emit l D cA sA fu s x1 M hp, h, fun _ => ⟨_, _, rfl⟩⟩
theorem cd_X8_readPart : Cond.code yX8_readPart cX8_readPart 6 (some .boolean) ∈ xG := (xg 831 (by decide +kernel) (by decide +kernel))
theorem hwr_X8_readPart (l : Launch) (D : va_G) (cA : Nat → ClassId) (sA : Nat → Nat) (r : Nat → Option Nat → Int32 → xM → Option (Int32 × xM)) (hR : Nat) (hr : ∀ (s : Nat) (x1 : Option Nat) (x2 : Int32) (M : xM) (rr : Int32 × xM), r s x1 x2 M = some rr → xMet l D cA sA yX8_readPart cX8_readPart 6 (some .boolean) xG hR 0 0 [.inr (.inr (8, some s)), .inr (.inr (10, x1)), .inl x2] M (some (.inl rr.1)) rr.2) {ρ : Type} {r0 : ρ} (kd1 : Nat) : ∀ (as : List xV) (M : xM) (k : Option xV → xM → Option ρ), w_X8_readPart r as M k = some r0 → ∃ v M', xMet l D cA sA yX8_readPart cX8_readPart 6 (some .boolean) xG hR 0 0 as M v M' ∧ k v M' = some r0 ∧ (kd1 ≠ 2 → ∃ a as', as = .inr (.inr (8, some a)) :: as') := by
  intro as M k h
  unfold w_X8_readPart at h
  replace h := pR_some h
  obtain ⟨o, as1, rfl, h⟩ := h
  replace h := bd_some h
  obtain ⟨s, rfl, h⟩ := h
  replace h := pR_some h
  obtain ⟨x1, as1, rfl, h⟩ := h
  replace h := pI_some h
  obtain ⟨x2, as1, rfl, h⟩ := h
  replace h := xe_some h
  obtain ⟨rfl, h⟩ := h
  obtain ⟨p1, hp, h⟩ := Option.bind_eq_some_iff.mp h
  exact ⟨_, _, hr s x1 x2 M _ hp, h, fun _ => ⟨_, _, rfl⟩⟩
theorem lk_X8_35 : xLink xG RX8 35 0 yX10_next 0 := ⟨Or.inl (xg 845 (by decide +kernel) (by decide +kernel)), (xg 652 (by decide +kernel) (by decide +kernel)), (xg 653 (by decide +kernel) (by decide +kernel)), (xg 129 (by decide +kernel) (by decide +kernel)), ⟨10, by decide, TX10, 10, rfl⟩⟩
theorem lk_X8_38 : xLink xG RX8 38 0 yX8_emit 1 := ⟨Or.inl (xg 841 (by decide +kernel) (by decide +kernel)), (xg 843 (by decide +kernel) (by decide +kernel)), (xg 12 (by decide +kernel) (by decide +kernel)), (xg 131 (by decide +kernel) (by decide +kernel)), ⟨8, by decide, TX8, 4, rfl⟩⟩
theorem lk_X8_45 : xLink xG RX8 45 0 yX10_isSign 1 := ⟨Or.inl (xg 836 (by decide +kernel) (by decide +kernel)), (xg 837 (by decide +kernel) (by decide +kernel)), (xg 838 (by decide +kernel) (by decide +kernel)), (xg 129 (by decide +kernel) (by decide +kernel)), ⟨10, by decide, TX10, 10, rfl⟩⟩
theorem lk_X8_52 : xLink xG RX8 52 0 yX8_readPart 2 := ⟨Or.inl (xg 828 (by decide +kernel) (by decide +kernel)), (xg 830 (by decide +kernel) (by decide +kernel)), (xg 11 (by decide +kernel) (by decide +kernel)), (xg 131 (by decide +kernel) (by decide +kernel)), ⟨8, by decide, TX8, 4, rfl⟩⟩
theorem cd_X8_readProduct : Cond.code yX8_readProduct cX8_readProduct 5 (some .boolean) ∈ xG := (xg 827 (by decide +kernel) (by decide +kernel))
theorem pr_X8_readProduct : (∀ e ∈ pX8_readProduct, xrow cX8_readProduct 5 kdX8 flX8 0 false RX8 e) ∧ xnext pX8_readProduct = true := xrows (by decide +kernel)
set_option maxRecDepth 100000 in
theorem wx_X8_readProduct_10 {hR : Nat} (X : xCtx p R S0 m ag c0 D cA A0 sA 5 cX8_readProduct RX8 (.code yX8_readProduct cX8_readProduct 5 (some .boolean) :: xG) 0 0) (hi : meth.name = yX8_readProduct.name) (hroom : (hR + 8) + 2 ≤ R.frames ∧ 60 * ((hR + 8) + 2) ≤ R.locals) {rr : Int32 × xM} (hE : xEnd l D cA sA cX8_readProduct 5 (some .boolean) R 0 0 (some (.inl rr.1)) rr.2 p e S0 m ag below meth c0 A0 M0 ad0 Z) (fu : Nat) (r : Nat → Option Nat → Int32 → xM → Option (Int32 × xM)) (hr : ∀ (s : Nat) (x1 : Option Nat) (x2 : Int32) (M : xM) (rr : Int32 × xM), r s x1 x2 M = some rr → xMet l D cA sA yX8_readPart cX8_readPart 6 (some .boolean) xG hR 0 0 [.inr (.inr (8, some s)), .inr (.inr (10, x1)), .inl x2] M (some (.inl rr.1)) rr.2) : ∀ (n : Nat) (s : Nat) (x1 : Option Nat) (x2 : Int32) (x3 : Int32) (x4 : Int32) (M : xM), L_X8_readProduct_10 fu r n s x1 x2 x3 x4 M = some rr → xWx p l e R S0 m ag below meth c0 D cA A0 sA M0 ad0 5 Z 0 0 10 0 0 [(0, .inr (.inr (8, some s))), (1, .inr (.inr (10, x1))), (2, .inl x2), (3, .inl x3), (4, .inl x4)] [] M := by
  intro n
  induction n with
  | zero => intro s x1 x2 x3 x4 M h; cases h
  | succ n ih =>
    intro s x1 x2 x3 x4 M h
    rw [← q_X8_readProduct_10 fu r n s x1 x2 x3 x4 M] at h
    have hT : ∀ w ∈ xG, w ∈ (Cond.code yX8_readProduct cX8_readProduct 5 (some .boolean) :: xG) := fun w hw => List.mem_cons_of_mem _ hw
    refine xrun_sound (nst := 0) (isInit := false) (kd := kdX8) X (xcls_mono hT xclsG) (xpool_mono hT plX8) (fun z => by cases z) (fun idx v hf => xkoE_mono hT (koX8_ok _ (xfind_mem hf))) (xents (ca := _) ?_) (endZ hE).1 (endZ hE).2 (xcuts (cu := _) ?_) pr_X8_readProduct.1 pr_X8_readProduct.2 _ _ _ _ _ _ _ _ (xat_ok pr_X8_readProduct.1 pr_X8_readProduct.2).1 (xat_ok pr_X8_readProduct.1 pr_X8_readProduct.2).2.1 (xat_ok pr_X8_readProduct.1 pr_X8_readProduct.2).2.2 h
    · exact (List.forall_mem_cons.mpr ⟨(xent_met X (ci := 10) hT cd_X10_next lk_X8_35 rfl (by decide) rfl (by decide +kernel) (fun z => absurd z (by decide)) (hw_X10_next l D cA sA fu 0) (fun _ => ⟨by decide, fun _ => ⟨TX10, 10, rfl⟩⟩) (by constructor <;> omega) (by decide)), (List.forall_mem_cons.mpr ⟨(xent_met X (ci := 8) hT cd_X8_emit lk_X8_38 rfl (by decide) rfl (by decide +kernel) (fun z => absurd z (by decide)) (hw_X8_emit l D cA sA fu 0) (fun _ => ⟨by decide, fun _ => ⟨TX8, 4, rfl⟩⟩) (by constructor <;> omega) (by decide)), (List.forall_mem_cons.mpr ⟨(xent_met X (ci := 10) hT cd_X10_isSign lk_X8_45 rfl (by decide) rfl (by decide +kernel) (fun z => absurd z (by decide)) (hw_X10_isSign l D cA sA fu 0) (fun _ => ⟨by decide, fun _ => ⟨TX10, 10, rfl⟩⟩) (by constructor <;> omega) (by decide)), (List.forall_mem_cons.mpr ⟨(xent_met X (ci := 8) hT cd_X8_readPart lk_X8_52 rfl (by decide) rfl (by decide +kernel) (fun z => absurd z (by decide)) (hwr_X8_readPart l D cA sA r hR hr 0) (fun _ => ⟨by decide, fun _ => ⟨TX8, 4, rfl⟩⟩) (by constructor <;> omega) (by decide)), (fun _ h => nomatch h)⟩)⟩)⟩)⟩)
    · refine (List.forall_mem_cons.mpr ⟨?_, (fun _ h => nomatch h)⟩)
      · intro bc bs ls st M h
        replace h := xz_some h
        obtain ⟨rfl, rfl, h⟩ := h
        replace h := lR_some h
        obtain ⟨o, e0, h⟩ := h
        replace h := bd_some h
        obtain ⟨s', rfl, h⟩ := h
        replace h := lR_some h
        obtain ⟨x1', e1, h⟩ := h
        replace h := lI_some h
        obtain ⟨x2', e2, h⟩ := h
        replace h := lI_some h
        obtain ⟨x3', e3, h⟩ := h
        replace h := lI_some h
        obtain ⟨x4', e4, h⟩ := h
        replace h := xe_some h
        obtain ⟨rfl, h⟩ := h
        exact xWx_ls (ih s' x1' x2' x3' x4' M h) (List.forall_mem_cons.mpr ⟨e0, (List.forall_mem_cons.mpr ⟨e1, (List.forall_mem_cons.mpr ⟨e2, (List.forall_mem_cons.mpr ⟨e3, (List.forall_mem_cons.mpr ⟨e4, (fun _ h => nomatch h)⟩)⟩)⟩)⟩)⟩)

set_option maxRecDepth 100000 in
theorem wx_X8_readProduct {hR : Nat} (X : xCtx p R S0 m ag c0 D cA A0 sA 5 cX8_readProduct RX8 (.code yX8_readProduct cX8_readProduct 5 (some .boolean) :: xG) 0 0) (hi : meth.name = yX8_readProduct.name) (hroom : (hR + 8) + 2 ≤ R.frames ∧ 60 * ((hR + 8) + 2) ≤ R.locals) {rr : Int32 × xM} (hE : xEnd l D cA sA cX8_readProduct 5 (some .boolean) R 0 0 (some (.inl rr.1)) rr.2 p e S0 m ag below meth c0 A0 M0 ad0 Z) (fu : Nat) (r : Nat → Option Nat → Int32 → xM → Option (Int32 × xM)) (hr : ∀ (s : Nat) (x1 : Option Nat) (x2 : Int32) (M : xM) (rr : Int32 × xM), r s x1 x2 M = some rr → xMet l D cA sA yX8_readPart cX8_readPart 6 (some .boolean) xG hR 0 0 [.inr (.inr (8, some s)), .inr (.inr (10, x1)), .inl x2] M (some (.inl rr.1)) rr.2) (s : Nat) (x1 : Option Nat) (x2 : Int32) (M : xM) (h : F_X8_readProduct fu r s x1 x2 M = some rr) : xWx p l e R S0 m ag below meth c0 D cA A0 sA M0 ad0 5 Z 0 0 0 0 0 [(0, .inr (.inr (8, some s))), (1, .inr (.inr (10, x1))), (2, .inl x2)] [] M := by
  rw [← q_X8_readProduct fu r s x1 x2 M] at h
  have hT : ∀ w ∈ xG, w ∈ (Cond.code yX8_readProduct cX8_readProduct 5 (some .boolean) :: xG) := fun w hw => List.mem_cons_of_mem _ hw
  refine xrun_sound (nst := 0) (isInit := false) (kd := kdX8) X (xcls_mono hT xclsG) (xpool_mono hT plX8) (fun z => by cases z) (fun idx v hf => xkoE_mono hT (koX8_ok _ (xfind_mem hf))) (xents (ca := _) ?_) (endZ hE).1 (endZ hE).2 (xcuts (cu := _) ?_) pr_X8_readProduct.1 pr_X8_readProduct.2 _ _ _ _ _ _ _ _ (xat_ok pr_X8_readProduct.1 pr_X8_readProduct.2).1 (xat_ok pr_X8_readProduct.1 pr_X8_readProduct.2).2.1 (xat_ok pr_X8_readProduct.1 pr_X8_readProduct.2).2.2 h
  · exact (List.forall_mem_cons.mpr ⟨(xent_met X (ci := 8) hT cd_X8_readPart lk_X8_52 rfl (by decide) rfl (by decide +kernel) (fun z => absurd z (by decide)) (hwr_X8_readPart l D cA sA r hR hr 0) (fun _ => ⟨by decide, fun _ => ⟨TX8, 4, rfl⟩⟩) (by constructor <;> omega) (by decide)), (fun _ h => nomatch h)⟩)
  · refine (List.forall_mem_cons.mpr ⟨?_, (fun _ h => nomatch h)⟩)
    · intro bc bs ls st M h
      replace h := xz_some h
      obtain ⟨rfl, rfl, h⟩ := h
      replace h := lR_some h
      obtain ⟨o, e0, h⟩ := h
      replace h := bd_some h
      obtain ⟨s', rfl, h⟩ := h
      replace h := lR_some h
      obtain ⟨x1', e1, h⟩ := h
      replace h := lI_some h
      obtain ⟨x2', e2, h⟩ := h
      replace h := lI_some h
      obtain ⟨x3', e3, h⟩ := h
      replace h := lI_some h
      obtain ⟨x4', e4, h⟩ := h
      replace h := xe_some h
      obtain ⟨rfl, h⟩ := h
      exact xWx_ls (wx_X8_readProduct_10 X hi hroom hE fu r hr fu s' x1' x2' x3' x4' M h) (List.forall_mem_cons.mpr ⟨e0, (List.forall_mem_cons.mpr ⟨e1, (List.forall_mem_cons.mpr ⟨e2, (List.forall_mem_cons.mpr ⟨e3, (List.forall_mem_cons.mpr ⟨e4, (fun _ h => nomatch h)⟩)⟩)⟩)⟩)⟩)

theorem ok_X8_readProduct (l : Launch) (D : va_G) (cA : Nat → ClassId) (sA : Nat → Nat) (fu : Nat) (r : Nat → Option Nat → Int32 → xM → Option (Int32 × xM)) (hR : Nat) (hr : ∀ (s : Nat) (x1 : Option Nat) (x2 : Int32) (M : xM) (rr : Int32 × xM), r s x1 x2 M = some rr → xMet l D cA sA yX8_readPart cX8_readPart 6 (some .boolean) xG hR 0 0 [.inr (.inr (8, some s)), .inr (.inr (10, x1)), .inl x2] M (some (.inl rr.1)) rr.2) (s : Nat) (x1 : Option Nat) (x2 : Int32) (M : xM) {rr : Int32 × xM} (h : F_X8_readProduct fu r s x1 x2 M = some rr) : xMet l D cA sA yX8_readProduct cX8_readProduct 5 (some .boolean) xG ((hR + 8) + 1) 0 0 [.inr (.inr (8, some s)), .inr (.inr (10, x1)), .inl x2] M (some (.inl rr.1)) rr.2 :=
  xmet_of (by decide +kernel) (Nat.le_of_ble_eq_true rfl) (fun p e s1 m ag below meth c0 A0 ad0 Z X hn hE => wx_X8_readProduct X hn ⟨Nat.le_refl _, Nat.le_refl _⟩ hE fu r hr s x1 x2 M h)
theorem hw_X8_readProduct (l : Launch) (D : va_G) (cA : Nat → ClassId) (sA : Nat → Nat) (fu : Nat) (r : Nat → Option Nat → Int32 → xM → Option (Int32 × xM)) (hR : Nat) (hr : ∀ (s : Nat) (x1 : Option Nat) (x2 : Int32) (M : xM) (rr : Int32 × xM), r s x1 x2 M = some rr → xMet l D cA sA yX8_readPart cX8_readPart 6 (some .boolean) xG hR 0 0 [.inr (.inr (8, some s)), .inr (.inr (10, x1)), .inl x2] M (some (.inl rr.1)) rr.2) {ρ : Type} {r0 : ρ} (kd1 : Nat) : ∀ (as : List xV) (M : xM) (k : Option xV → xM → Option ρ), w_X8_readProduct fu r as M k = some r0 → ∃ v M', xMet l D cA sA yX8_readProduct cX8_readProduct 5 (some .boolean) xG ((hR + 8) + 1) 0 0 as M v M' ∧ k v M' = some r0 ∧ (kd1 ≠ 2 → ∃ a as', as = .inr (.inr (8, some a)) :: as') := by
  intro as M k h
  unfold w_X8_readProduct at h
  replace h := pR_some h
  obtain ⟨o, as1, rfl, h⟩ := h
  replace h := bd_some h
  obtain ⟨s, rfl, h⟩ := h
  replace h := pR_some h
  obtain ⟨x1, as1, rfl, h⟩ := h
  replace h := pI_some h
  obtain ⟨x2, as1, rfl, h⟩ := h
  replace h := xe_some h
  obtain ⟨rfl, h⟩ := h
  obtain ⟨p1, hp, h⟩ := Option.bind_eq_some_iff.mp h
  exact ⟨_, _, ok_X8_readProduct l D cA sA fu r hR hr s x1 x2 M hp, h, fun _ => ⟨_, _, rfl⟩⟩
theorem lk_X8_49 : xLink xG RX8 49 0 yX8_readProduct 2 := ⟨Or.inl (xg 824 (by decide +kernel) (by decide +kernel)), (xg 826 (by decide +kernel) (by decide +kernel)), (xg 10 (by decide +kernel) (by decide +kernel)), (xg 131 (by decide +kernel) (by decide +kernel)), ⟨8, by decide, TX8, 4, rfl⟩⟩
theorem cd_X8_readSum : Cond.code yX8_readSum cX8_readSum 6 (some .boolean) ∈ xG := (xg 823 (by decide +kernel) (by decide +kernel))
theorem pr_X8_readSum : (∀ e ∈ pX8_readSum, xrow cX8_readSum 6 kdX8 flX8 0 false RX8 e) ∧ xnext pX8_readSum = true := xrows (by decide +kernel)
set_option maxRecDepth 100000 in
theorem wx_X8_readSum_56 {hR : Nat} (X : xCtx p R S0 m ag c0 D cA A0 sA 6 cX8_readSum RX8 (.code yX8_readSum cX8_readSum 6 (some .boolean) :: xG) 0 0) (hi : meth.name = yX8_readSum.name) (hroom : (hR + 9) + 2 ≤ R.frames ∧ 60 * ((hR + 9) + 2) ≤ R.locals) {rr : Int32 × xM} (hE : xEnd l D cA sA cX8_readSum 6 (some .boolean) R 0 0 (some (.inl rr.1)) rr.2 p e S0 m ag below meth c0 A0 M0 ad0 Z) (fu : Nat) (r : Nat → Option Nat → Int32 → xM → Option (Int32 × xM)) (hr : ∀ (s : Nat) (x1 : Option Nat) (x2 : Int32) (M : xM) (rr : Int32 × xM), r s x1 x2 M = some rr → xMet l D cA sA yX8_readPart cX8_readPart 6 (some .boolean) xG hR 0 0 [.inr (.inr (8, some s)), .inr (.inr (10, x1)), .inl x2] M (some (.inl rr.1)) rr.2) (k10 : Nat → Option Nat → Int32 → Int32 → Int32 → xM → Option (Int32 × xM)) (hk10 : ∀ (s : Nat) (x1 : Option Nat) (x2 : Int32) (x3 : Int32) (x4 : Int32) (M : xM), k10 s x1 x2 x3 x4 M = some rr → xWx p l e R S0 m ag below meth c0 D cA A0 sA M0 ad0 6 Z 0 0 10 0 0 [(0, .inr (.inr (8, some s))), (1, .inr (.inr (10, x1))), (2, .inl x2), (3, .inl x3), (4, .inl x4)] [] M) (s : Nat) (x1 : Option Nat) (x2 : Int32) (x4 : Int32) (y0 : Int32) (M : xM) (h : J_X8_readSum_56 fu r k10 s x1 x2 x4 y0 M = some rr) : xWx p l e R S0 m ag below meth c0 D cA A0 sA M0 ad0 6 Z 0 0 56 0 0 [(0, .inr (.inr (8, some s))), (1, .inr (.inr (10, x1))), (2, .inl x2), (4, .inl x4)] [.inl y0] M := by
  rw [← q_X8_readSum_56 fu r k10 s x1 x2 x4 y0 M] at h
  have hT : ∀ w ∈ xG, w ∈ (Cond.code yX8_readSum cX8_readSum 6 (some .boolean) :: xG) := fun w hw => List.mem_cons_of_mem _ hw
  refine xrun_sound (nst := 0) (isInit := false) (kd := kdX8) X (xcls_mono hT xclsG) (xpool_mono hT plX8) (fun z => by cases z) (fun idx v hf => xkoE_mono hT (koX8_ok _ (xfind_mem hf))) (xents (ca := _) ?_) (endZ hE).1 (endZ hE).2 (xcuts (cu := _) ?_) pr_X8_readSum.1 pr_X8_readSum.2 _ _ _ _ _ _ _ _ (xat_ok pr_X8_readSum.1 pr_X8_readSum.2).1 (xat_ok pr_X8_readSum.1 pr_X8_readSum.2).2.1 (xat_ok pr_X8_readSum.1 pr_X8_readSum.2).2.2 h
  · exact (List.forall_mem_cons.mpr ⟨(xent_met X (ci := 10) hT cd_X10_next lk_X8_35 rfl (by decide) rfl (by decide +kernel) (fun z => absurd z (by decide)) (hw_X10_next l D cA sA fu 0) (fun _ => ⟨by decide, fun _ => ⟨TX10, 10, rfl⟩⟩) (by constructor <;> omega) (by decide)), (List.forall_mem_cons.mpr ⟨(xent_met X (ci := 8) hT cd_X8_emit lk_X8_38 rfl (by decide) rfl (by decide +kernel) (fun z => absurd z (by decide)) (hw_X8_emit l D cA sA fu 0) (fun _ => ⟨by decide, fun _ => ⟨TX8, 4, rfl⟩⟩) (by constructor <;> omega) (by decide)), (List.forall_mem_cons.mpr ⟨(xent_met X (ci := 8) hT cd_X8_readProduct lk_X8_49 rfl (by decide) rfl (by decide +kernel) (fun z => absurd z (by decide)) (hw_X8_readProduct l D cA sA fu r hR hr 0) (fun _ => ⟨by decide, fun _ => ⟨TX8, 4, rfl⟩⟩) (by constructor <;> omega) (by decide)), (fun _ h => nomatch h)⟩)⟩)⟩)
  · refine (List.forall_mem_cons.mpr ⟨?_, (fun _ h => nomatch h)⟩)
    · intro bc bs ls st M h
      replace h := xz_some h
      obtain ⟨rfl, rfl, h⟩ := h
      replace h := lR_some h
      obtain ⟨o, e0, h⟩ := h
      replace h := bd_some h
      obtain ⟨s', rfl, h⟩ := h
      replace h := lR_some h
      obtain ⟨x1', e1, h⟩ := h
      replace h := lI_some h
      obtain ⟨x2', e2, h⟩ := h
      replace h := lI_some h
      obtain ⟨x3', e3, h⟩ := h
      replace h := lI_some h
      obtain ⟨x4', e4, h⟩ := h
      replace h := xe_some h
      obtain ⟨rfl, h⟩ := h
      exact xWx_ls (hk10 s' x1' x2' x3' x4' M h) (List.forall_mem_cons.mpr ⟨e0, (List.forall_mem_cons.mpr ⟨e1, (List.forall_mem_cons.mpr ⟨e2, (List.forall_mem_cons.mpr ⟨e3, (List.forall_mem_cons.mpr ⟨e4, (fun _ h => nomatch h)⟩)⟩)⟩)⟩)⟩)

set_option maxRecDepth 100000 in
theorem wx_X8_readSum_40 {hR : Nat} (X : xCtx p R S0 m ag c0 D cA A0 sA 6 cX8_readSum RX8 (.code yX8_readSum cX8_readSum 6 (some .boolean) :: xG) 0 0) (hi : meth.name = yX8_readSum.name) (hroom : (hR + 9) + 2 ≤ R.frames ∧ 60 * ((hR + 9) + 2) ≤ R.locals) {rr : Int32 × xM} (hE : xEnd l D cA sA cX8_readSum 6 (some .boolean) R 0 0 (some (.inl rr.1)) rr.2 p e S0 m ag below meth c0 A0 M0 ad0 Z) (fu : Nat) (r : Nat → Option Nat → Int32 → xM → Option (Int32 × xM)) (hr : ∀ (s : Nat) (x1 : Option Nat) (x2 : Int32) (M : xM) (rr : Int32 × xM), r s x1 x2 M = some rr → xMet l D cA sA yX8_readPart cX8_readPart 6 (some .boolean) xG hR 0 0 [.inr (.inr (8, some s)), .inr (.inr (10, x1)), .inl x2] M (some (.inl rr.1)) rr.2) (k10 : Nat → Option Nat → Int32 → Int32 → Int32 → xM → Option (Int32 × xM)) (hk10 : ∀ (s : Nat) (x1 : Option Nat) (x2 : Int32) (x3 : Int32) (x4 : Int32) (M : xM), k10 s x1 x2 x3 x4 M = some rr → xWx p l e R S0 m ag below meth c0 D cA A0 sA M0 ad0 6 Z 0 0 10 0 0 [(0, .inr (.inr (8, some s))), (1, .inr (.inr (10, x1))), (2, .inl x2), (3, .inl x3), (4, .inl x4)] [] M) (s : Nat) (x1 : Option Nat) (x2 : Int32) (x4 : Int32) (M : xM) (h : J_X8_readSum_40 fu r k10 s x1 x2 x4 M = some rr) : xWx p l e R S0 m ag below meth c0 D cA A0 sA M0 ad0 6 Z 0 0 40 0 0 [(0, .inr (.inr (8, some s))), (1, .inr (.inr (10, x1))), (2, .inl x2), (4, .inl x4)] [] M := by
  rw [← q_X8_readSum_40 fu r k10 s x1 x2 x4 M] at h
  have hT : ∀ w ∈ xG, w ∈ (Cond.code yX8_readSum cX8_readSum 6 (some .boolean) :: xG) := fun w hw => List.mem_cons_of_mem _ hw
  refine xrun_sound (nst := 0) (isInit := false) (kd := kdX8) X (xcls_mono hT xclsG) (xpool_mono hT plX8) (fun z => by cases z) (fun idx v hf => xkoE_mono hT (koX8_ok _ (xfind_mem hf))) (xents (ca := _) ?_) (endZ hE).1 (endZ hE).2 (xcuts (cu := _) ?_) pr_X8_readSum.1 pr_X8_readSum.2 _ _ _ _ _ _ _ _ (xat_ok pr_X8_readSum.1 pr_X8_readSum.2).1 (xat_ok pr_X8_readSum.1 pr_X8_readSum.2).2.1 (xat_ok pr_X8_readSum.1 pr_X8_readSum.2).2.2 h
  · exact (List.forall_mem_cons.mpr ⟨(xent_met X (ci := 10) hT cd_X10_isSign lk_X8_45 rfl (by decide) rfl (by decide +kernel) (fun z => absurd z (by decide)) (hw_X10_isSign l D cA sA fu 0) (fun _ => ⟨by decide, fun _ => ⟨TX10, 10, rfl⟩⟩) (by constructor <;> omega) (by decide)), (fun _ h => nomatch h)⟩)
  · refine (List.forall_mem_cons.mpr ⟨?_, (fun _ h => nomatch h)⟩)
    · intro bc bs ls st M h
      replace h := xz_some h
      obtain ⟨rfl, rfl, h⟩ := h
      replace h := lR_some h
      obtain ⟨o, e0, h⟩ := h
      replace h := bd_some h
      obtain ⟨s', rfl, h⟩ := h
      replace h := lR_some h
      obtain ⟨x1', e1, h⟩ := h
      replace h := lI_some h
      obtain ⟨x2', e2, h⟩ := h
      replace h := lI_some h
      obtain ⟨x4', e4, h⟩ := h
      replace h := pI_some h
      obtain ⟨y0', st, rfl, h⟩ := h
      replace h := xe_some h
      obtain ⟨rfl, h⟩ := h
      exact xWx_ls (wx_X8_readSum_56 X hi hroom hE fu r hr k10 hk10 s' x1' x2' x4' y0' M h) (List.forall_mem_cons.mpr ⟨e0, (List.forall_mem_cons.mpr ⟨e1, (List.forall_mem_cons.mpr ⟨e2, (List.forall_mem_cons.mpr ⟨e4, (fun _ h => nomatch h)⟩)⟩)⟩)⟩)

set_option maxRecDepth 100000 in
theorem wx_X8_readSum_10 {hR : Nat} (X : xCtx p R S0 m ag c0 D cA A0 sA 6 cX8_readSum RX8 (.code yX8_readSum cX8_readSum 6 (some .boolean) :: xG) 0 0) (hi : meth.name = yX8_readSum.name) (hroom : (hR + 9) + 2 ≤ R.frames ∧ 60 * ((hR + 9) + 2) ≤ R.locals) {rr : Int32 × xM} (hE : xEnd l D cA sA cX8_readSum 6 (some .boolean) R 0 0 (some (.inl rr.1)) rr.2 p e S0 m ag below meth c0 A0 M0 ad0 Z) (fu : Nat) (r : Nat → Option Nat → Int32 → xM → Option (Int32 × xM)) (hr : ∀ (s : Nat) (x1 : Option Nat) (x2 : Int32) (M : xM) (rr : Int32 × xM), r s x1 x2 M = some rr → xMet l D cA sA yX8_readPart cX8_readPart 6 (some .boolean) xG hR 0 0 [.inr (.inr (8, some s)), .inr (.inr (10, x1)), .inl x2] M (some (.inl rr.1)) rr.2) : ∀ (n : Nat) (s : Nat) (x1 : Option Nat) (x2 : Int32) (x3 : Int32) (x4 : Int32) (M : xM), L_X8_readSum_10 fu r n s x1 x2 x3 x4 M = some rr → xWx p l e R S0 m ag below meth c0 D cA A0 sA M0 ad0 6 Z 0 0 10 0 0 [(0, .inr (.inr (8, some s))), (1, .inr (.inr (10, x1))), (2, .inl x2), (3, .inl x3), (4, .inl x4)] [] M := by
  intro n
  induction n with
  | zero => intro s x1 x2 x3 x4 M h; cases h
  | succ n ih =>
    intro s x1 x2 x3 x4 M h
    rw [← q_X8_readSum_10 fu r n s x1 x2 x3 x4 M] at h
    have hT : ∀ w ∈ xG, w ∈ (Cond.code yX8_readSum cX8_readSum 6 (some .boolean) :: xG) := fun w hw => List.mem_cons_of_mem _ hw
    refine xrun_sound (nst := 0) (isInit := false) (kd := kdX8) X (xcls_mono hT xclsG) (xpool_mono hT plX8) (fun z => by cases z) (fun idx v hf => xkoE_mono hT (koX8_ok _ (xfind_mem hf))) (xents (ca := _) ?_) (endZ hE).1 (endZ hE).2 (xcuts (cu := _) ?_) pr_X8_readSum.1 pr_X8_readSum.2 _ _ _ _ _ _ _ _ (xat_ok pr_X8_readSum.1 pr_X8_readSum.2).1 (xat_ok pr_X8_readSum.1 pr_X8_readSum.2).2.1 (xat_ok pr_X8_readSum.1 pr_X8_readSum.2).2.2 h
    · exact (List.forall_mem_cons.mpr ⟨(xent_met X (ci := 10) hT cd_X10_isSign lk_X8_45 rfl (by decide) rfl (by decide +kernel) (fun z => absurd z (by decide)) (hw_X10_isSign l D cA sA fu 0) (fun _ => ⟨by decide, fun _ => ⟨TX10, 10, rfl⟩⟩) (by constructor <;> omega) (by decide)), (fun _ h => nomatch h)⟩)
    · refine (List.forall_mem_cons.mpr ⟨?_, (fun _ h => nomatch h)⟩)
      · intro bc bs ls st M h
        replace h := xz_some h
        obtain ⟨rfl, rfl, h⟩ := h
        replace h := lR_some h
        obtain ⟨o, e0, h⟩ := h
        replace h := bd_some h
        obtain ⟨s', rfl, h⟩ := h
        replace h := lR_some h
        obtain ⟨x1', e1, h⟩ := h
        replace h := lI_some h
        obtain ⟨x2', e2, h⟩ := h
        replace h := lI_some h
        obtain ⟨x4', e4, h⟩ := h
        replace h := xe_some h
        obtain ⟨rfl, h⟩ := h
        exact xWx_ls (wx_X8_readSum_40 X hi hroom hE fu r hr _ ih s' x1' x2' x4' M h) (List.forall_mem_cons.mpr ⟨e0, (List.forall_mem_cons.mpr ⟨e1, (List.forall_mem_cons.mpr ⟨e2, (List.forall_mem_cons.mpr ⟨e4, (fun _ h => nomatch h)⟩)⟩)⟩)⟩)

set_option maxRecDepth 100000 in
theorem wx_X8_readSum {hR : Nat} (X : xCtx p R S0 m ag c0 D cA A0 sA 6 cX8_readSum RX8 (.code yX8_readSum cX8_readSum 6 (some .boolean) :: xG) 0 0) (hi : meth.name = yX8_readSum.name) (hroom : (hR + 9) + 2 ≤ R.frames ∧ 60 * ((hR + 9) + 2) ≤ R.locals) {rr : Int32 × xM} (hE : xEnd l D cA sA cX8_readSum 6 (some .boolean) R 0 0 (some (.inl rr.1)) rr.2 p e S0 m ag below meth c0 A0 M0 ad0 Z) (fu : Nat) (r : Nat → Option Nat → Int32 → xM → Option (Int32 × xM)) (hr : ∀ (s : Nat) (x1 : Option Nat) (x2 : Int32) (M : xM) (rr : Int32 × xM), r s x1 x2 M = some rr → xMet l D cA sA yX8_readPart cX8_readPart 6 (some .boolean) xG hR 0 0 [.inr (.inr (8, some s)), .inr (.inr (10, x1)), .inl x2] M (some (.inl rr.1)) rr.2) (s : Nat) (x1 : Option Nat) (x2 : Int32) (M : xM) (h : F_X8_readSum fu r s x1 x2 M = some rr) : xWx p l e R S0 m ag below meth c0 D cA A0 sA M0 ad0 6 Z 0 0 0 0 0 [(0, .inr (.inr (8, some s))), (1, .inr (.inr (10, x1))), (2, .inl x2)] [] M := by
  rw [← q_X8_readSum fu r s x1 x2 M] at h
  have hT : ∀ w ∈ xG, w ∈ (Cond.code yX8_readSum cX8_readSum 6 (some .boolean) :: xG) := fun w hw => List.mem_cons_of_mem _ hw
  refine xrun_sound (nst := 0) (isInit := false) (kd := kdX8) X (xcls_mono hT xclsG) (xpool_mono hT plX8) (fun z => by cases z) (fun idx v hf => xkoE_mono hT (koX8_ok _ (xfind_mem hf))) (xents (ca := _) ?_) (endZ hE).1 (endZ hE).2 (xcuts (cu := _) ?_) pr_X8_readSum.1 pr_X8_readSum.2 _ _ _ _ _ _ _ _ (xat_ok pr_X8_readSum.1 pr_X8_readSum.2).1 (xat_ok pr_X8_readSum.1 pr_X8_readSum.2).2.1 (xat_ok pr_X8_readSum.1 pr_X8_readSum.2).2.2 h
  · exact (List.forall_mem_cons.mpr ⟨(xent_met X (ci := 8) hT cd_X8_readProduct lk_X8_49 rfl (by decide) rfl (by decide +kernel) (fun z => absurd z (by decide)) (hw_X8_readProduct l D cA sA fu r hR hr 0) (fun _ => ⟨by decide, fun _ => ⟨TX8, 4, rfl⟩⟩) (by constructor <;> omega) (by decide)), (fun _ h => nomatch h)⟩)
  · refine (List.forall_mem_cons.mpr ⟨?_, (fun _ h => nomatch h)⟩)
    · intro bc bs ls st M h
      replace h := xz_some h
      obtain ⟨rfl, rfl, h⟩ := h
      replace h := lR_some h
      obtain ⟨o, e0, h⟩ := h
      replace h := bd_some h
      obtain ⟨s', rfl, h⟩ := h
      replace h := lR_some h
      obtain ⟨x1', e1, h⟩ := h
      replace h := lI_some h
      obtain ⟨x2', e2, h⟩ := h
      replace h := lI_some h
      obtain ⟨x3', e3, h⟩ := h
      replace h := lI_some h
      obtain ⟨x4', e4, h⟩ := h
      replace h := xe_some h
      obtain ⟨rfl, h⟩ := h
      exact xWx_ls (wx_X8_readSum_10 X hi hroom hE fu r hr fu s' x1' x2' x3' x4' M h) (List.forall_mem_cons.mpr ⟨e0, (List.forall_mem_cons.mpr ⟨e1, (List.forall_mem_cons.mpr ⟨e2, (List.forall_mem_cons.mpr ⟨e3, (List.forall_mem_cons.mpr ⟨e4, (fun _ h => nomatch h)⟩)⟩)⟩)⟩)⟩)

theorem ok_X8_readSum (l : Launch) (D : va_G) (cA : Nat → ClassId) (sA : Nat → Nat) (fu : Nat) (r : Nat → Option Nat → Int32 → xM → Option (Int32 × xM)) (hR : Nat) (hr : ∀ (s : Nat) (x1 : Option Nat) (x2 : Int32) (M : xM) (rr : Int32 × xM), r s x1 x2 M = some rr → xMet l D cA sA yX8_readPart cX8_readPart 6 (some .boolean) xG hR 0 0 [.inr (.inr (8, some s)), .inr (.inr (10, x1)), .inl x2] M (some (.inl rr.1)) rr.2) (s : Nat) (x1 : Option Nat) (x2 : Int32) (M : xM) {rr : Int32 × xM} (h : F_X8_readSum fu r s x1 x2 M = some rr) : xMet l D cA sA yX8_readSum cX8_readSum 6 (some .boolean) xG ((hR + 9) + 1) 0 0 [.inr (.inr (8, some s)), .inr (.inr (10, x1)), .inl x2] M (some (.inl rr.1)) rr.2 :=
  xmet_of (by decide +kernel) (Nat.le_of_ble_eq_true rfl) (fun p e s1 m ag below meth c0 A0 ad0 Z X hn hE => wx_X8_readSum X hn ⟨Nat.le_refl _, Nat.le_refl _⟩ hE fu r hr s x1 x2 M h)
theorem hw_X8_readSum (l : Launch) (D : va_G) (cA : Nat → ClassId) (sA : Nat → Nat) (fu : Nat) (r : Nat → Option Nat → Int32 → xM → Option (Int32 × xM)) (hR : Nat) (hr : ∀ (s : Nat) (x1 : Option Nat) (x2 : Int32) (M : xM) (rr : Int32 × xM), r s x1 x2 M = some rr → xMet l D cA sA yX8_readPart cX8_readPart 6 (some .boolean) xG hR 0 0 [.inr (.inr (8, some s)), .inr (.inr (10, x1)), .inl x2] M (some (.inl rr.1)) rr.2) {ρ : Type} {r0 : ρ} (kd1 : Nat) : ∀ (as : List xV) (M : xM) (k : Option xV → xM → Option ρ), w_X8_readSum fu r as M k = some r0 → ∃ v M', xMet l D cA sA yX8_readSum cX8_readSum 6 (some .boolean) xG ((hR + 9) + 1) 0 0 as M v M' ∧ k v M' = some r0 ∧ (kd1 ≠ 2 → ∃ a as', as = .inr (.inr (8, some a)) :: as') := by
  intro as M k h
  unfold w_X8_readSum at h
  replace h := pR_some h
  obtain ⟨o, as1, rfl, h⟩ := h
  replace h := bd_some h
  obtain ⟨s, rfl, h⟩ := h
  replace h := pR_some h
  obtain ⟨x1, as1, rfl, h⟩ := h
  replace h := pI_some h
  obtain ⟨x2, as1, rfl, h⟩ := h
  replace h := xe_some h
  obtain ⟨rfl, h⟩ := h
  obtain ⟨p1, hp, h⟩ := Option.bind_eq_some_iff.mp h
  exact ⟨_, _, ok_X8_readSum l D cA sA fu r hR hr s x1 x2 M hp, h, fun _ => ⟨_, _, rfl⟩⟩
theorem lk_X8_42 : xLink xG RX8 42 0 yX8_readSum 2 := ⟨Or.inl (xg 820 (by decide +kernel) (by decide +kernel)), (xg 822 (by decide +kernel) (by decide +kernel)), (xg 9 (by decide +kernel) (by decide +kernel)), (xg 131 (by decide +kernel) (by decide +kernel)), ⟨8, by decide, TX8, 4, rfl⟩⟩
theorem cd_X8_readTest : Cond.code yX8_readTest cX8_readTest 5 (some .boolean) ∈ xG := (xg 819 (by decide +kernel) (by decide +kernel))
theorem pr_X8_readTest : (∀ e ∈ pX8_readTest, xrow cX8_readTest 5 kdX8 flX8 0 false RX8 e) ∧ xnext pX8_readTest = true := xrows (by decide +kernel)
set_option maxRecDepth 100000 in
theorem wx_X8_readTest_45 {hR : Nat} (X : xCtx p R S0 m ag c0 D cA A0 sA 5 cX8_readTest RX8 (.code yX8_readTest cX8_readTest 5 (some .boolean) :: xG) 0 0) (hi : meth.name = yX8_readTest.name) (hroom : (hR + 10) + 2 ≤ R.frames ∧ 60 * ((hR + 10) + 2) ≤ R.locals) {rr : Int32 × xM} (hE : xEnd l D cA sA cX8_readTest 5 (some .boolean) R 0 0 (some (.inl rr.1)) rr.2 p e S0 m ag below meth c0 A0 M0 ad0 Z) (fu : Nat) (r : Nat → Option Nat → Int32 → xM → Option (Int32 × xM)) (hr : ∀ (s : Nat) (x1 : Option Nat) (x2 : Int32) (M : xM) (rr : Int32 × xM), r s x1 x2 M = some rr → xMet l D cA sA yX8_readPart cX8_readPart 6 (some .boolean) xG hR 0 0 [.inr (.inr (8, some s)), .inr (.inr (10, x1)), .inl x2] M (some (.inl rr.1)) rr.2) (s : Nat) (x1 : Option Nat) (x2 : Int32) (y0 : Int32) (M : xM) (h : J_X8_readTest_45 fu r s x1 x2 y0 M = some rr) : xWx p l e R S0 m ag below meth c0 D cA A0 sA M0 ad0 5 Z 0 0 45 0 0 [(0, .inr (.inr (8, some s))), (1, .inr (.inr (10, x1))), (2, .inl x2)] [.inl y0] M := by
  rw [← q_X8_readTest_45 fu r s x1 x2 y0 M] at h
  have hT : ∀ w ∈ xG, w ∈ (Cond.code yX8_readTest cX8_readTest 5 (some .boolean) :: xG) := fun w hw => List.mem_cons_of_mem _ hw
  refine xrun_sound (nst := 0) (isInit := false) (kd := kdX8) X (xcls_mono hT xclsG) (xpool_mono hT plX8) (fun z => by cases z) (fun idx v hf => xkoE_mono hT (koX8_ok _ (xfind_mem hf))) (xents (ca := _) ?_) (endZ hE).1 (endZ hE).2 (xcuts (cu := _) ?_) pr_X8_readTest.1 pr_X8_readTest.2 _ _ _ _ _ _ _ _ (xat_ok pr_X8_readTest.1 pr_X8_readTest.2).1 (xat_ok pr_X8_readTest.1 pr_X8_readTest.2).2.1 (xat_ok pr_X8_readTest.1 pr_X8_readTest.2).2.2 h
  · exact (List.forall_mem_cons.mpr ⟨(xent_met X (ci := 10) hT cd_X10_next lk_X8_35 rfl (by decide) rfl (by decide +kernel) (fun z => absurd z (by decide)) (hw_X10_next l D cA sA fu 0) (fun _ => ⟨by decide, fun _ => ⟨TX10, 10, rfl⟩⟩) (by constructor <;> omega) (by decide)), (List.forall_mem_cons.mpr ⟨(xent_met X (ci := 8) hT cd_X8_emit lk_X8_38 rfl (by decide) rfl (by decide +kernel) (fun z => absurd z (by decide)) (hw_X8_emit l D cA sA fu 0) (fun _ => ⟨by decide, fun _ => ⟨TX8, 4, rfl⟩⟩) (by constructor <;> omega) (by decide)), (List.forall_mem_cons.mpr ⟨(xent_met X (ci := 8) hT cd_X8_readSum lk_X8_42 rfl (by decide) rfl (by decide +kernel) (fun z => absurd z (by decide)) (hw_X8_readSum l D cA sA fu r hR hr 0) (fun _ => ⟨by decide, fun _ => ⟨TX8, 4, rfl⟩⟩) (by constructor <;> omega) (by decide)), (fun _ h => nomatch h)⟩)⟩)⟩)
  · exact (fun _ h => nomatch h)

set_option maxRecDepth 100000 in
theorem wx_X8_readTest_29 {hR : Nat} (X : xCtx p R S0 m ag c0 D cA A0 sA 5 cX8_readTest RX8 (.code yX8_readTest cX8_readTest 5 (some .boolean) :: xG) 0 0) (hi : meth.name = yX8_readTest.name) (hroom : (hR + 10) + 2 ≤ R.frames ∧ 60 * ((hR + 10) + 2) ≤ R.locals) {rr : Int32 × xM} (hE : xEnd l D cA sA cX8_readTest 5 (some .boolean) R 0 0 (some (.inl rr.1)) rr.2 p e S0 m ag below meth c0 A0 M0 ad0 Z) (fu : Nat) (r : Nat → Option Nat → Int32 → xM → Option (Int32 × xM)) (hr : ∀ (s : Nat) (x1 : Option Nat) (x2 : Int32) (M : xM) (rr : Int32 × xM), r s x1 x2 M = some rr → xMet l D cA sA yX8_readPart cX8_readPart 6 (some .boolean) xG hR 0 0 [.inr (.inr (8, some s)), .inr (.inr (10, x1)), .inl x2] M (some (.inl rr.1)) rr.2) (s : Nat) (x1 : Option Nat) (x2 : Int32) (M : xM) (h : J_X8_readTest_29 fu r s x1 x2 M = some rr) : xWx p l e R S0 m ag below meth c0 D cA A0 sA M0 ad0 5 Z 0 0 29 0 0 [(0, .inr (.inr (8, some s))), (1, .inr (.inr (10, x1))), (2, .inl x2)] [] M := by
  rw [← q_X8_readTest_29 fu r s x1 x2 M] at h
  have hT : ∀ w ∈ xG, w ∈ (Cond.code yX8_readTest cX8_readTest 5 (some .boolean) :: xG) := fun w hw => List.mem_cons_of_mem _ hw
  refine xrun_sound (nst := 0) (isInit := false) (kd := kdX8) X (xcls_mono hT xclsG) (xpool_mono hT plX8) (fun z => by cases z) (fun idx v hf => xkoE_mono hT (koX8_ok _ (xfind_mem hf))) (xents (ca := _) ?_) (endZ hE).1 (endZ hE).2 (xcuts (cu := _) ?_) pr_X8_readTest.1 pr_X8_readTest.2 _ _ _ _ _ _ _ _ (xat_ok pr_X8_readTest.1 pr_X8_readTest.2).1 (xat_ok pr_X8_readTest.1 pr_X8_readTest.2).2.1 (xat_ok pr_X8_readTest.1 pr_X8_readTest.2).2.2 h
  · exact (List.forall_mem_cons.mpr ⟨(xent_met X (ci := 10) hT cd_X10_isSign lk_X8_45 rfl (by decide) rfl (by decide +kernel) (fun z => absurd z (by decide)) (hw_X10_isSign l D cA sA fu 0) (fun _ => ⟨by decide, fun _ => ⟨TX10, 10, rfl⟩⟩) (by constructor <;> omega) (by decide)), (fun _ h => nomatch h)⟩)
  · refine (List.forall_mem_cons.mpr ⟨?_, (fun _ h => nomatch h)⟩)
    · intro bc bs ls st M h
      replace h := xz_some h
      obtain ⟨rfl, rfl, h⟩ := h
      replace h := lR_some h
      obtain ⟨o, e0, h⟩ := h
      replace h := bd_some h
      obtain ⟨s', rfl, h⟩ := h
      replace h := lR_some h
      obtain ⟨x1', e1, h⟩ := h
      replace h := lI_some h
      obtain ⟨x2', e2, h⟩ := h
      replace h := pI_some h
      obtain ⟨y0', st, rfl, h⟩ := h
      replace h := xe_some h
      obtain ⟨rfl, h⟩ := h
      exact xWx_ls (wx_X8_readTest_45 X hi hroom hE fu r hr s' x1' x2' y0' M h) (List.forall_mem_cons.mpr ⟨e0, (List.forall_mem_cons.mpr ⟨e1, (List.forall_mem_cons.mpr ⟨e2, (fun _ h => nomatch h)⟩)⟩)⟩)

set_option maxRecDepth 100000 in
theorem wx_X8_readTest {hR : Nat} (X : xCtx p R S0 m ag c0 D cA A0 sA 5 cX8_readTest RX8 (.code yX8_readTest cX8_readTest 5 (some .boolean) :: xG) 0 0) (hi : meth.name = yX8_readTest.name) (hroom : (hR + 10) + 2 ≤ R.frames ∧ 60 * ((hR + 10) + 2) ≤ R.locals) {rr : Int32 × xM} (hE : xEnd l D cA sA cX8_readTest 5 (some .boolean) R 0 0 (some (.inl rr.1)) rr.2 p e S0 m ag below meth c0 A0 M0 ad0 Z) (fu : Nat) (r : Nat → Option Nat → Int32 → xM → Option (Int32 × xM)) (hr : ∀ (s : Nat) (x1 : Option Nat) (x2 : Int32) (M : xM) (rr : Int32 × xM), r s x1 x2 M = some rr → xMet l D cA sA yX8_readPart cX8_readPart 6 (some .boolean) xG hR 0 0 [.inr (.inr (8, some s)), .inr (.inr (10, x1)), .inl x2] M (some (.inl rr.1)) rr.2) (s : Nat) (x1 : Option Nat) (x2 : Int32) (M : xM) (h : F_X8_readTest fu r s x1 x2 M = some rr) : xWx p l e R S0 m ag below meth c0 D cA A0 sA M0 ad0 5 Z 0 0 0 0 0 [(0, .inr (.inr (8, some s))), (1, .inr (.inr (10, x1))), (2, .inl x2)] [] M := by
  rw [← q_X8_readTest fu r s x1 x2 M] at h
  have hT : ∀ w ∈ xG, w ∈ (Cond.code yX8_readTest cX8_readTest 5 (some .boolean) :: xG) := fun w hw => List.mem_cons_of_mem _ hw
  refine xrun_sound (nst := 0) (isInit := false) (kd := kdX8) X (xcls_mono hT xclsG) (xpool_mono hT plX8) (fun z => by cases z) (fun idx v hf => xkoE_mono hT (koX8_ok _ (xfind_mem hf))) (xents (ca := _) ?_) (endZ hE).1 (endZ hE).2 (xcuts (cu := _) ?_) pr_X8_readTest.1 pr_X8_readTest.2 _ _ _ _ _ _ _ _ (xat_ok pr_X8_readTest.1 pr_X8_readTest.2).1 (xat_ok pr_X8_readTest.1 pr_X8_readTest.2).2.1 (xat_ok pr_X8_readTest.1 pr_X8_readTest.2).2.2 h
  · exact (List.forall_mem_cons.mpr ⟨(xent_met X (ci := 8) hT cd_X8_readSum lk_X8_42 rfl (by decide) rfl (by decide +kernel) (fun z => absurd z (by decide)) (hw_X8_readSum l D cA sA fu r hR hr 0) (fun _ => ⟨by decide, fun _ => ⟨TX8, 4, rfl⟩⟩) (by constructor <;> omega) (by decide)), (List.forall_mem_cons.mpr ⟨(xent_met X (ci := 10) hT cd_X10_isSign lk_X8_45 rfl (by decide) rfl (by decide +kernel) (fun z => absurd z (by decide)) (hw_X10_isSign l D cA sA fu 0) (fun _ => ⟨by decide, fun _ => ⟨TX10, 10, rfl⟩⟩) (by constructor <;> omega) (by decide)), (fun _ h => nomatch h)⟩)⟩)
  · refine (List.forall_mem_cons.mpr ⟨?_, (fun _ h => nomatch h)⟩)
    · intro bc bs ls st M h
      replace h := xz_some h
      obtain ⟨rfl, rfl, h⟩ := h
      replace h := lR_some h
      obtain ⟨o, e0, h⟩ := h
      replace h := bd_some h
      obtain ⟨s', rfl, h⟩ := h
      replace h := lR_some h
      obtain ⟨x1', e1, h⟩ := h
      replace h := lI_some h
      obtain ⟨x2', e2, h⟩ := h
      replace h := xe_some h
      obtain ⟨rfl, h⟩ := h
      exact xWx_ls (wx_X8_readTest_29 X hi hroom hE fu r hr s' x1' x2' M h) (List.forall_mem_cons.mpr ⟨e0, (List.forall_mem_cons.mpr ⟨e1, (List.forall_mem_cons.mpr ⟨e2, (fun _ h => nomatch h)⟩)⟩)⟩)

theorem ok_X8_readTest (l : Launch) (D : va_G) (cA : Nat → ClassId) (sA : Nat → Nat) (fu : Nat) (r : Nat → Option Nat → Int32 → xM → Option (Int32 × xM)) (hR : Nat) (hr : ∀ (s : Nat) (x1 : Option Nat) (x2 : Int32) (M : xM) (rr : Int32 × xM), r s x1 x2 M = some rr → xMet l D cA sA yX8_readPart cX8_readPart 6 (some .boolean) xG hR 0 0 [.inr (.inr (8, some s)), .inr (.inr (10, x1)), .inl x2] M (some (.inl rr.1)) rr.2) (s : Nat) (x1 : Option Nat) (x2 : Int32) (M : xM) {rr : Int32 × xM} (h : F_X8_readTest fu r s x1 x2 M = some rr) : xMet l D cA sA yX8_readTest cX8_readTest 5 (some .boolean) xG ((hR + 10) + 1) 0 0 [.inr (.inr (8, some s)), .inr (.inr (10, x1)), .inl x2] M (some (.inl rr.1)) rr.2 :=
  xmet_of (by decide +kernel) (Nat.le_of_ble_eq_true rfl) (fun p e s1 m ag below meth c0 A0 ad0 Z X hn hE => wx_X8_readTest X hn ⟨Nat.le_refl _, Nat.le_refl _⟩ hE fu r hr s x1 x2 M h)
theorem hw_X8_readTest (l : Launch) (D : va_G) (cA : Nat → ClassId) (sA : Nat → Nat) (fu : Nat) (r : Nat → Option Nat → Int32 → xM → Option (Int32 × xM)) (hR : Nat) (hr : ∀ (s : Nat) (x1 : Option Nat) (x2 : Int32) (M : xM) (rr : Int32 × xM), r s x1 x2 M = some rr → xMet l D cA sA yX8_readPart cX8_readPart 6 (some .boolean) xG hR 0 0 [.inr (.inr (8, some s)), .inr (.inr (10, x1)), .inl x2] M (some (.inl rr.1)) rr.2) {ρ : Type} {r0 : ρ} (kd1 : Nat) : ∀ (as : List xV) (M : xM) (k : Option xV → xM → Option ρ), w_X8_readTest fu r as M k = some r0 → ∃ v M', xMet l D cA sA yX8_readTest cX8_readTest 5 (some .boolean) xG ((hR + 10) + 1) 0 0 as M v M' ∧ k v M' = some r0 ∧ (kd1 ≠ 2 → ∃ a as', as = .inr (.inr (8, some a)) :: as') := by
  intro as M k h
  unfold w_X8_readTest at h
  replace h := pR_some h
  obtain ⟨o, as1, rfl, h⟩ := h
  replace h := bd_some h
  obtain ⟨s, rfl, h⟩ := h
  replace h := pR_some h
  obtain ⟨x1, as1, rfl, h⟩ := h
  replace h := pI_some h
  obtain ⟨x2, as1, rfl, h⟩ := h
  replace h := xe_some h
  obtain ⟨rfl, h⟩ := h
  obtain ⟨p1, hp, h⟩ := Option.bind_eq_some_iff.mp h
  exact ⟨_, _, ok_X8_readTest l D cA sA fu r hR hr s x1 x2 M hp, h, fun _ => ⟨_, _, rfl⟩⟩
theorem lk_X8_27 : xLink xG RX8 27 0 yX8_readTest 2 := ⟨Or.inl (xg 816 (by decide +kernel) (by decide +kernel)), (xg 818 (by decide +kernel) (by decide +kernel)), (xg 8 (by decide +kernel) (by decide +kernel)), (xg 131 (by decide +kernel) (by decide +kernel)), ⟨8, by decide, TX8, 4, rfl⟩⟩
theorem cd_X8_readAll : Cond.code yX8_readAll cX8_readAll 6 (some .boolean) ∈ xG := (xg 815 (by decide +kernel) (by decide +kernel))
theorem pr_X8_readAll : (∀ e ∈ pX8_readAll, xrow cX8_readAll 6 kdX8 flX8 0 false RX8 e) ∧ xnext pX8_readAll = true := xrows (by decide +kernel)
set_option maxRecDepth 100000 in
theorem wx_X8_readAll_56 {hR : Nat} (X : xCtx p R S0 m ag c0 D cA A0 sA 6 cX8_readAll RX8 (.code yX8_readAll cX8_readAll 6 (some .boolean) :: xG) 0 0) (hi : meth.name = yX8_readAll.name) (hroom : (hR + 11) + 2 ≤ R.frames ∧ 60 * ((hR + 11) + 2) ≤ R.locals) {rr : Int32 × xM} (hE : xEnd l D cA sA cX8_readAll 6 (some .boolean) R 0 0 (some (.inl rr.1)) rr.2 p e S0 m ag below meth c0 A0 M0 ad0 Z) (fu : Nat) (r : Nat → Option Nat → Int32 → xM → Option (Int32 × xM)) (hr : ∀ (s : Nat) (x1 : Option Nat) (x2 : Int32) (M : xM) (rr : Int32 × xM), r s x1 x2 M = some rr → xMet l D cA sA yX8_readPart cX8_readPart 6 (some .boolean) xG hR 0 0 [.inr (.inr (8, some s)), .inr (.inr (10, x1)), .inl x2] M (some (.inl rr.1)) rr.2) (k10 : Nat → Option Nat → Int32 → Int32 → Int32 → xM → Option (Int32 × xM)) (hk10 : ∀ (s : Nat) (x1 : Option Nat) (x2 : Int32) (x3 : Int32) (x4 : Int32) (M : xM), k10 s x1 x2 x3 x4 M = some rr → xWx p l e R S0 m ag below meth c0 D cA A0 sA M0 ad0 6 Z 0 0 10 0 0 [(0, .inr (.inr (8, some s))), (1, .inr (.inr (10, x1))), (2, .inl x2), (3, .inl x3), (4, .inl x4)] [] M) (s : Nat) (x1 : Option Nat) (x2 : Int32) (x4 : Int32) (y0 : Int32) (M : xM) (h : J_X8_readAll_56 fu r k10 s x1 x2 x4 y0 M = some rr) : xWx p l e R S0 m ag below meth c0 D cA A0 sA M0 ad0 6 Z 0 0 56 0 0 [(0, .inr (.inr (8, some s))), (1, .inr (.inr (10, x1))), (2, .inl x2), (4, .inl x4)] [.inl y0] M := by
  rw [← q_X8_readAll_56 fu r k10 s x1 x2 x4 y0 M] at h
  have hT : ∀ w ∈ xG, w ∈ (Cond.code yX8_readAll cX8_readAll 6 (some .boolean) :: xG) := fun w hw => List.mem_cons_of_mem _ hw
  refine xrun_sound (nst := 0) (isInit := false) (kd := kdX8) X (xcls_mono hT xclsG) (xpool_mono hT plX8) (fun z => by cases z) (fun idx v hf => xkoE_mono hT (koX8_ok _ (xfind_mem hf))) (xents (ca := _) ?_) (endZ hE).1 (endZ hE).2 (xcuts (cu := _) ?_) pr_X8_readAll.1 pr_X8_readAll.2 _ _ _ _ _ _ _ _ (xat_ok pr_X8_readAll.1 pr_X8_readAll.2).1 (xat_ok pr_X8_readAll.1 pr_X8_readAll.2).2.1 (xat_ok pr_X8_readAll.1 pr_X8_readAll.2).2.2 h
  · exact (List.forall_mem_cons.mpr ⟨(xent_met X (ci := 8) hT cd_X8_readTest lk_X8_27 rfl (by decide) rfl (by decide +kernel) (fun z => absurd z (by decide)) (hw_X8_readTest l D cA sA fu r hR hr 0) (fun _ => ⟨by decide, fun _ => ⟨TX8, 4, rfl⟩⟩) (by constructor <;> omega) (by decide)), (List.forall_mem_cons.mpr ⟨(xent_met X (ci := 10) hT cd_X10_next lk_X8_35 rfl (by decide) rfl (by decide +kernel) (fun z => absurd z (by decide)) (hw_X10_next l D cA sA fu 0) (fun _ => ⟨by decide, fun _ => ⟨TX10, 10, rfl⟩⟩) (by constructor <;> omega) (by decide)), (List.forall_mem_cons.mpr ⟨(xent_met X (ci := 8) hT cd_X8_emit lk_X8_38 rfl (by decide) rfl (by decide +kernel) (fun z => absurd z (by decide)) (hw_X8_emit l D cA sA fu 0) (fun _ => ⟨by decide, fun _ => ⟨TX8, 4, rfl⟩⟩) (by constructor <;> omega) (by decide)), (fun _ h => nomatch h)⟩)⟩)⟩)
  · refine (List.forall_mem_cons.mpr ⟨?_, (fun _ h => nomatch h)⟩)
    · intro bc bs ls st M h
      replace h := xz_some h
      obtain ⟨rfl, rfl, h⟩ := h
      replace h := lR_some h
      obtain ⟨o, e0, h⟩ := h
      replace h := bd_some h
      obtain ⟨s', rfl, h⟩ := h
      replace h := lR_some h
      obtain ⟨x1', e1, h⟩ := h
      replace h := lI_some h
      obtain ⟨x2', e2, h⟩ := h
      replace h := lI_some h
      obtain ⟨x3', e3, h⟩ := h
      replace h := lI_some h
      obtain ⟨x4', e4, h⟩ := h
      replace h := xe_some h
      obtain ⟨rfl, h⟩ := h
      exact xWx_ls (hk10 s' x1' x2' x3' x4' M h) (List.forall_mem_cons.mpr ⟨e0, (List.forall_mem_cons.mpr ⟨e1, (List.forall_mem_cons.mpr ⟨e2, (List.forall_mem_cons.mpr ⟨e3, (List.forall_mem_cons.mpr ⟨e4, (fun _ h => nomatch h)⟩)⟩)⟩)⟩)⟩)

set_option maxRecDepth 100000 in
theorem wx_X8_readAll_40 {hR : Nat} (X : xCtx p R S0 m ag c0 D cA A0 sA 6 cX8_readAll RX8 (.code yX8_readAll cX8_readAll 6 (some .boolean) :: xG) 0 0) (hi : meth.name = yX8_readAll.name) (hroom : (hR + 11) + 2 ≤ R.frames ∧ 60 * ((hR + 11) + 2) ≤ R.locals) {rr : Int32 × xM} (hE : xEnd l D cA sA cX8_readAll 6 (some .boolean) R 0 0 (some (.inl rr.1)) rr.2 p e S0 m ag below meth c0 A0 M0 ad0 Z) (fu : Nat) (r : Nat → Option Nat → Int32 → xM → Option (Int32 × xM)) (hr : ∀ (s : Nat) (x1 : Option Nat) (x2 : Int32) (M : xM) (rr : Int32 × xM), r s x1 x2 M = some rr → xMet l D cA sA yX8_readPart cX8_readPart 6 (some .boolean) xG hR 0 0 [.inr (.inr (8, some s)), .inr (.inr (10, x1)), .inl x2] M (some (.inl rr.1)) rr.2) (k10 : Nat → Option Nat → Int32 → Int32 → Int32 → xM → Option (Int32 × xM)) (hk10 : ∀ (s : Nat) (x1 : Option Nat) (x2 : Int32) (x3 : Int32) (x4 : Int32) (M : xM), k10 s x1 x2 x3 x4 M = some rr → xWx p l e R S0 m ag below meth c0 D cA A0 sA M0 ad0 6 Z 0 0 10 0 0 [(0, .inr (.inr (8, some s))), (1, .inr (.inr (10, x1))), (2, .inl x2), (3, .inl x3), (4, .inl x4)] [] M) (s : Nat) (x1 : Option Nat) (x2 : Int32) (x4 : Int32) (M : xM) (h : J_X8_readAll_40 fu r k10 s x1 x2 x4 M = some rr) : xWx p l e R S0 m ag below meth c0 D cA A0 sA M0 ad0 6 Z 0 0 40 0 0 [(0, .inr (.inr (8, some s))), (1, .inr (.inr (10, x1))), (2, .inl x2), (4, .inl x4)] [] M := by
  rw [← q_X8_readAll_40 fu r k10 s x1 x2 x4 M] at h
  have hT : ∀ w ∈ xG, w ∈ (Cond.code yX8_readAll cX8_readAll 6 (some .boolean) :: xG) := fun w hw => List.mem_cons_of_mem _ hw
  refine xrun_sound (nst := 0) (isInit := false) (kd := kdX8) X (xcls_mono hT xclsG) (xpool_mono hT plX8) (fun z => by cases z) (fun idx v hf => xkoE_mono hT (koX8_ok _ (xfind_mem hf))) (xents (ca := _) ?_) (endZ hE).1 (endZ hE).2 (xcuts (cu := _) ?_) pr_X8_readAll.1 pr_X8_readAll.2 _ _ _ _ _ _ _ _ (xat_ok pr_X8_readAll.1 pr_X8_readAll.2).1 (xat_ok pr_X8_readAll.1 pr_X8_readAll.2).2.1 (xat_ok pr_X8_readAll.1 pr_X8_readAll.2).2.2 h
  · exact (fun _ h => nomatch h)
  · refine (List.forall_mem_cons.mpr ⟨?_, (fun _ h => nomatch h)⟩)
    · intro bc bs ls st M h
      replace h := xz_some h
      obtain ⟨rfl, rfl, h⟩ := h
      replace h := lR_some h
      obtain ⟨o, e0, h⟩ := h
      replace h := bd_some h
      obtain ⟨s', rfl, h⟩ := h
      replace h := lR_some h
      obtain ⟨x1', e1, h⟩ := h
      replace h := lI_some h
      obtain ⟨x2', e2, h⟩ := h
      replace h := lI_some h
      obtain ⟨x4', e4, h⟩ := h
      replace h := pI_some h
      obtain ⟨y0', st, rfl, h⟩ := h
      replace h := xe_some h
      obtain ⟨rfl, h⟩ := h
      exact xWx_ls (wx_X8_readAll_56 X hi hroom hE fu r hr k10 hk10 s' x1' x2' x4' y0' M h) (List.forall_mem_cons.mpr ⟨e0, (List.forall_mem_cons.mpr ⟨e1, (List.forall_mem_cons.mpr ⟨e2, (List.forall_mem_cons.mpr ⟨e4, (fun _ h => nomatch h)⟩)⟩)⟩)⟩)

set_option maxRecDepth 100000 in
theorem wx_X8_readAll_10 {hR : Nat} (X : xCtx p R S0 m ag c0 D cA A0 sA 6 cX8_readAll RX8 (.code yX8_readAll cX8_readAll 6 (some .boolean) :: xG) 0 0) (hi : meth.name = yX8_readAll.name) (hroom : (hR + 11) + 2 ≤ R.frames ∧ 60 * ((hR + 11) + 2) ≤ R.locals) {rr : Int32 × xM} (hE : xEnd l D cA sA cX8_readAll 6 (some .boolean) R 0 0 (some (.inl rr.1)) rr.2 p e S0 m ag below meth c0 A0 M0 ad0 Z) (fu : Nat) (r : Nat → Option Nat → Int32 → xM → Option (Int32 × xM)) (hr : ∀ (s : Nat) (x1 : Option Nat) (x2 : Int32) (M : xM) (rr : Int32 × xM), r s x1 x2 M = some rr → xMet l D cA sA yX8_readPart cX8_readPart 6 (some .boolean) xG hR 0 0 [.inr (.inr (8, some s)), .inr (.inr (10, x1)), .inl x2] M (some (.inl rr.1)) rr.2) : ∀ (n : Nat) (s : Nat) (x1 : Option Nat) (x2 : Int32) (x3 : Int32) (x4 : Int32) (M : xM), L_X8_readAll_10 fu r n s x1 x2 x3 x4 M = some rr → xWx p l e R S0 m ag below meth c0 D cA A0 sA M0 ad0 6 Z 0 0 10 0 0 [(0, .inr (.inr (8, some s))), (1, .inr (.inr (10, x1))), (2, .inl x2), (3, .inl x3), (4, .inl x4)] [] M := by
  intro n
  induction n with
  | zero => intro s x1 x2 x3 x4 M h; cases h
  | succ n ih =>
    intro s x1 x2 x3 x4 M h
    rw [← q_X8_readAll_10 fu r n s x1 x2 x3 x4 M] at h
    have hT : ∀ w ∈ xG, w ∈ (Cond.code yX8_readAll cX8_readAll 6 (some .boolean) :: xG) := fun w hw => List.mem_cons_of_mem _ hw
    refine xrun_sound (nst := 0) (isInit := false) (kd := kdX8) X (xcls_mono hT xclsG) (xpool_mono hT plX8) (fun z => by cases z) (fun idx v hf => xkoE_mono hT (koX8_ok _ (xfind_mem hf))) (xents (ca := _) ?_) (endZ hE).1 (endZ hE).2 (xcuts (cu := _) ?_) pr_X8_readAll.1 pr_X8_readAll.2 _ _ _ _ _ _ _ _ (xat_ok pr_X8_readAll.1 pr_X8_readAll.2).1 (xat_ok pr_X8_readAll.1 pr_X8_readAll.2).2.1 (xat_ok pr_X8_readAll.1 pr_X8_readAll.2).2.2 h
    · exact (fun _ h => nomatch h)
    · refine (List.forall_mem_cons.mpr ⟨?_, (fun _ h => nomatch h)⟩)
      · intro bc bs ls st M h
        replace h := xz_some h
        obtain ⟨rfl, rfl, h⟩ := h
        replace h := lR_some h
        obtain ⟨o, e0, h⟩ := h
        replace h := bd_some h
        obtain ⟨s', rfl, h⟩ := h
        replace h := lR_some h
        obtain ⟨x1', e1, h⟩ := h
        replace h := lI_some h
        obtain ⟨x2', e2, h⟩ := h
        replace h := lI_some h
        obtain ⟨x4', e4, h⟩ := h
        replace h := xe_some h
        obtain ⟨rfl, h⟩ := h
        exact xWx_ls (wx_X8_readAll_40 X hi hroom hE fu r hr _ ih s' x1' x2' x4' M h) (List.forall_mem_cons.mpr ⟨e0, (List.forall_mem_cons.mpr ⟨e1, (List.forall_mem_cons.mpr ⟨e2, (List.forall_mem_cons.mpr ⟨e4, (fun _ h => nomatch h)⟩)⟩)⟩)⟩)

set_option maxRecDepth 100000 in
theorem wx_X8_readAll {hR : Nat} (X : xCtx p R S0 m ag c0 D cA A0 sA 6 cX8_readAll RX8 (.code yX8_readAll cX8_readAll 6 (some .boolean) :: xG) 0 0) (hi : meth.name = yX8_readAll.name) (hroom : (hR + 11) + 2 ≤ R.frames ∧ 60 * ((hR + 11) + 2) ≤ R.locals) {rr : Int32 × xM} (hE : xEnd l D cA sA cX8_readAll 6 (some .boolean) R 0 0 (some (.inl rr.1)) rr.2 p e S0 m ag below meth c0 A0 M0 ad0 Z) (fu : Nat) (r : Nat → Option Nat → Int32 → xM → Option (Int32 × xM)) (hr : ∀ (s : Nat) (x1 : Option Nat) (x2 : Int32) (M : xM) (rr : Int32 × xM), r s x1 x2 M = some rr → xMet l D cA sA yX8_readPart cX8_readPart 6 (some .boolean) xG hR 0 0 [.inr (.inr (8, some s)), .inr (.inr (10, x1)), .inl x2] M (some (.inl rr.1)) rr.2) (s : Nat) (x1 : Option Nat) (x2 : Int32) (M : xM) (h : F_X8_readAll fu r s x1 x2 M = some rr) : xWx p l e R S0 m ag below meth c0 D cA A0 sA M0 ad0 6 Z 0 0 0 0 0 [(0, .inr (.inr (8, some s))), (1, .inr (.inr (10, x1))), (2, .inl x2)] [] M := by
  rw [← q_X8_readAll fu r s x1 x2 M] at h
  have hT : ∀ w ∈ xG, w ∈ (Cond.code yX8_readAll cX8_readAll 6 (some .boolean) :: xG) := fun w hw => List.mem_cons_of_mem _ hw
  refine xrun_sound (nst := 0) (isInit := false) (kd := kdX8) X (xcls_mono hT xclsG) (xpool_mono hT plX8) (fun z => by cases z) (fun idx v hf => xkoE_mono hT (koX8_ok _ (xfind_mem hf))) (xents (ca := _) ?_) (endZ hE).1 (endZ hE).2 (xcuts (cu := _) ?_) pr_X8_readAll.1 pr_X8_readAll.2 _ _ _ _ _ _ _ _ (xat_ok pr_X8_readAll.1 pr_X8_readAll.2).1 (xat_ok pr_X8_readAll.1 pr_X8_readAll.2).2.1 (xat_ok pr_X8_readAll.1 pr_X8_readAll.2).2.2 h
  · exact (List.forall_mem_cons.mpr ⟨(xent_met X (ci := 8) hT cd_X8_readTest lk_X8_27 rfl (by decide) rfl (by decide +kernel) (fun z => absurd z (by decide)) (hw_X8_readTest l D cA sA fu r hR hr 0) (fun _ => ⟨by decide, fun _ => ⟨TX8, 4, rfl⟩⟩) (by constructor <;> omega) (by decide)), (fun _ h => nomatch h)⟩)
  · refine (List.forall_mem_cons.mpr ⟨?_, (fun _ h => nomatch h)⟩)
    · intro bc bs ls st M h
      replace h := xz_some h
      obtain ⟨rfl, rfl, h⟩ := h
      replace h := lR_some h
      obtain ⟨o, e0, h⟩ := h
      replace h := bd_some h
      obtain ⟨s', rfl, h⟩ := h
      replace h := lR_some h
      obtain ⟨x1', e1, h⟩ := h
      replace h := lI_some h
      obtain ⟨x2', e2, h⟩ := h
      replace h := lI_some h
      obtain ⟨x3', e3, h⟩ := h
      replace h := lI_some h
      obtain ⟨x4', e4, h⟩ := h
      replace h := xe_some h
      obtain ⟨rfl, h⟩ := h
      exact xWx_ls (wx_X8_readAll_10 X hi hroom hE fu r hr fu s' x1' x2' x3' x4' M h) (List.forall_mem_cons.mpr ⟨e0, (List.forall_mem_cons.mpr ⟨e1, (List.forall_mem_cons.mpr ⟨e2, (List.forall_mem_cons.mpr ⟨e3, (List.forall_mem_cons.mpr ⟨e4, (fun _ h => nomatch h)⟩)⟩)⟩)⟩)⟩)

theorem ok_X8_readAll (l : Launch) (D : va_G) (cA : Nat → ClassId) (sA : Nat → Nat) (fu : Nat) (r : Nat → Option Nat → Int32 → xM → Option (Int32 × xM)) (hR : Nat) (hr : ∀ (s : Nat) (x1 : Option Nat) (x2 : Int32) (M : xM) (rr : Int32 × xM), r s x1 x2 M = some rr → xMet l D cA sA yX8_readPart cX8_readPart 6 (some .boolean) xG hR 0 0 [.inr (.inr (8, some s)), .inr (.inr (10, x1)), .inl x2] M (some (.inl rr.1)) rr.2) (s : Nat) (x1 : Option Nat) (x2 : Int32) (M : xM) {rr : Int32 × xM} (h : F_X8_readAll fu r s x1 x2 M = some rr) : xMet l D cA sA yX8_readAll cX8_readAll 6 (some .boolean) xG ((hR + 11) + 1) 0 0 [.inr (.inr (8, some s)), .inr (.inr (10, x1)), .inl x2] M (some (.inl rr.1)) rr.2 :=
  xmet_of (by decide +kernel) (Nat.le_of_ble_eq_true rfl) (fun p e s1 m ag below meth c0 A0 ad0 Z X hn hE => wx_X8_readAll X hn ⟨Nat.le_refl _, Nat.le_refl _⟩ hE fu r hr s x1 x2 M h)
theorem hw_X8_readAll (l : Launch) (D : va_G) (cA : Nat → ClassId) (sA : Nat → Nat) (fu : Nat) (r : Nat → Option Nat → Int32 → xM → Option (Int32 × xM)) (hR : Nat) (hr : ∀ (s : Nat) (x1 : Option Nat) (x2 : Int32) (M : xM) (rr : Int32 × xM), r s x1 x2 M = some rr → xMet l D cA sA yX8_readPart cX8_readPart 6 (some .boolean) xG hR 0 0 [.inr (.inr (8, some s)), .inr (.inr (10, x1)), .inl x2] M (some (.inl rr.1)) rr.2) {ρ : Type} {r0 : ρ} (kd1 : Nat) : ∀ (as : List xV) (M : xM) (k : Option xV → xM → Option ρ), w_X8_readAll fu r as M k = some r0 → ∃ v M', xMet l D cA sA yX8_readAll cX8_readAll 6 (some .boolean) xG ((hR + 11) + 1) 0 0 as M v M' ∧ k v M' = some r0 ∧ (kd1 ≠ 2 → ∃ a as', as = .inr (.inr (8, some a)) :: as') := by
  intro as M k h
  unfold w_X8_readAll at h
  replace h := pR_some h
  obtain ⟨o, as1, rfl, h⟩ := h
  replace h := bd_some h
  obtain ⟨s, rfl, h⟩ := h
  replace h := pR_some h
  obtain ⟨x1, as1, rfl, h⟩ := h
  replace h := pI_some h
  obtain ⟨x2, as1, rfl, h⟩ := h
  replace h := xe_some h
  obtain ⟨rfl, h⟩ := h
  obtain ⟨p1, hp, h⟩ := Option.bind_eq_some_iff.mp h
  exact ⟨_, _, ok_X8_readAll l D cA sA fu r hR hr s x1 x2 M hp, h, fun _ => ⟨_, _, rfl⟩⟩
theorem lk_X8_23 : xLink xG RX8 23 0 yX8_readAll 2 := ⟨Or.inl (xg 812 (by decide +kernel) (by decide +kernel)), (xg 814 (by decide +kernel) (by decide +kernel)), (xg 7 (by decide +kernel) (by decide +kernel)), (xg 131 (by decide +kernel) (by decide +kernel)), ⟨8, by decide, TX8, 4, rfl⟩⟩
theorem lk_X8_62 : xLink xG RX8 62 0 yX10_fail 1 := ⟨Or.inl (xg 840 (by decide +kernel) (by decide +kernel)), (xg 791 (by decide +kernel) (by decide +kernel)), (xg 792 (by decide +kernel) (by decide +kernel)), (xg 129 (by decide +kernel) (by decide +kernel)), ⟨10, by decide, TX10, 10, rfl⟩⟩
theorem lk_X8_58 : xLink xG RX8 58 0 yX10_isFact 0 := ⟨Or.inl (xg 832 (by decide +kernel) (by decide +kernel)), (xg 833 (by decide +kernel) (by decide +kernel)), (xg 834 (by decide +kernel) (by decide +kernel)), (xg 129 (by decide +kernel) (by decide +kernel)), ⟨10, by decide, TX10, 10, rfl⟩⟩
theorem pr_X8_readPart : (∀ e ∈ pX8_readPart, xrow cX8_readPart 6 kdX8 flX8 0 false RX8 e) ∧ xnext pX8_readPart = true := xrows (by decide +kernel)
set_option maxRecDepth 100000 in
theorem wx_X8_readPart_61 {hR : Nat} (X : xCtx p R S0 m ag c0 D cA A0 sA 6 cX8_readPart RX8 (.code yX8_readPart cX8_readPart 6 (some .boolean) :: xG) 0 0) (hi : meth.name = yX8_readPart.name) (hroom : (hR + 12) + 2 ≤ R.frames ∧ 60 * ((hR + 12) + 2) ≤ R.locals) {rr : Int32 × xM} (hE : xEnd l D cA sA cX8_readPart 6 (some .boolean) R 0 0 (some (.inl rr.1)) rr.2 p e S0 m ag below meth c0 A0 M0 ad0 Z) (fu : Nat) (r : Nat → Option Nat → Int32 → xM → Option (Int32 × xM)) (hr : ∀ (s : Nat) (x1 : Option Nat) (x2 : Int32) (M : xM) (rr : Int32 × xM), r s x1 x2 M = some rr → xMet l D cA sA yX8_readPart cX8_readPart 6 (some .boolean) xG hR 0 0 [.inr (.inr (8, some s)), .inr (.inr (10, x1)), .inl x2] M (some (.inl rr.1)) rr.2) (s : Nat) (x1 : Option Nat) (x2 : Int32) (x3 : Int32) (x4 : Int32) (M : xM) (h : J_X8_readPart_61 fu r s x1 x2 x3 x4 M = some rr) : xWx p l e R S0 m ag below meth c0 D cA A0 sA M0 ad0 6 Z 0 0 61 0 0 [(0, .inr (.inr (8, some s))), (1, .inr (.inr (10, x1))), (2, .inl x2), (3, .inl x3), (4, .inl x4)] [] M := by
  rw [← q_X8_readPart_61 fu r s x1 x2 x3 x4 M] at h
  have hT : ∀ w ∈ xG, w ∈ (Cond.code yX8_readPart cX8_readPart 6 (some .boolean) :: xG) := fun w hw => List.mem_cons_of_mem _ hw
  refine xrun_sound (nst := 0) (isInit := false) (kd := kdX8) X (xcls_mono hT xclsG) (xpool_mono hT plX8) (fun z => by cases z) (fun idx v hf => xkoE_mono hT (koX8_ok _ (xfind_mem hf))) (xents (ca := _) ?_) (endZ hE).1 (endZ hE).2 (xcuts (cu := _) ?_) pr_X8_readPart.1 pr_X8_readPart.2 _ _ _ _ _ _ _ _ (xat_ok pr_X8_readPart.1 pr_X8_readPart.2).1 (xat_ok pr_X8_readPart.1 pr_X8_readPart.2).2.1 (xat_ok pr_X8_readPart.1 pr_X8_readPart.2).2.2 h
  · exact (List.forall_mem_cons.mpr ⟨(xent_met X (ci := 8) hT cd_X8_readAll lk_X8_23 rfl (by decide) rfl (by decide +kernel) (fun z => absurd z (by decide)) (hw_X8_readAll l D cA sA fu r hR hr 0) (fun _ => ⟨by decide, fun _ => ⟨TX8, 4, rfl⟩⟩) (by constructor <;> omega) (by decide)), (List.forall_mem_cons.mpr ⟨(xent_met X (ci := 10) hT cd_X10_next lk_X8_35 rfl (by decide) rfl (by decide +kernel) (fun z => absurd z (by decide)) (hw_X10_next l D cA sA fu 0) (fun _ => ⟨by decide, fun _ => ⟨TX10, 10, rfl⟩⟩) (by constructor <;> omega) (by decide)), (List.forall_mem_cons.mpr ⟨(xent_met X (ci := 8) hT cd_X8_emit lk_X8_38 rfl (by decide) rfl (by decide +kernel) (fun z => absurd z (by decide)) (hw_X8_emit l D cA sA fu 0) (fun _ => ⟨by decide, fun _ => ⟨TX8, 4, rfl⟩⟩) (by constructor <;> omega) (by decide)), (List.forall_mem_cons.mpr ⟨(xent_met X (ci := 10) hT cd_X10_isSign lk_X8_45 rfl (by decide) rfl (by decide +kernel) (fun z => absurd z (by decide)) (hw_X10_isSign l D cA sA fu 0) (fun _ => ⟨by decide, fun _ => ⟨TX10, 10, rfl⟩⟩) (by constructor <;> omega) (by decide)), (List.forall_mem_cons.mpr ⟨(xent_met X (ci := 8) hT cd_X8_readPart lk_X8_52 rfl (by decide) rfl (by decide +kernel) (fun z => absurd z (by decide)) (hwr_X8_readPart l D cA sA r hR hr 0) (fun _ => ⟨by decide, fun _ => ⟨TX8, 4, rfl⟩⟩) (by constructor <;> omega) (by decide)), (List.forall_mem_cons.mpr ⟨(xent_met X (ci := 10) hT cd_X10_fail lk_X8_62 rfl (by decide) rfl (by decide +kernel) (fun z => absurd z (by decide)) (hw_X10_fail l D cA sA fu 0) (fun _ => ⟨by decide, fun _ => ⟨TX10, 10, rfl⟩⟩) (by constructor <;> omega) (by decide)), (fun _ h => nomatch h)⟩)⟩)⟩)⟩)⟩)⟩)
  · exact (fun _ h => nomatch h)

set_option maxRecDepth 100000 in
theorem wx_X8_readPart_35 {hR : Nat} (X : xCtx p R S0 m ag c0 D cA A0 sA 6 cX8_readPart RX8 (.code yX8_readPart cX8_readPart 6 (some .boolean) :: xG) 0 0) (hi : meth.name = yX8_readPart.name) (hroom : (hR + 12) + 2 ≤ R.frames ∧ 60 * ((hR + 12) + 2) ≤ R.locals) {rr : Int32 × xM} (hE : xEnd l D cA sA cX8_readPart 6 (some .boolean) R 0 0 (some (.inl rr.1)) rr.2 p e S0 m ag below meth c0 A0 M0 ad0 Z) (fu : Nat) (r : Nat → Option Nat → Int32 → xM → Option (Int32 × xM)) (hr : ∀ (s : Nat) (x1 : Option Nat) (x2 : Int32) (M : xM) (rr : Int32 × xM), r s x1 x2 M = some rr → xMet l D cA sA yX8_readPart cX8_readPart 6 (some .boolean) xG hR 0 0 [.inr (.inr (8, some s)), .inr (.inr (10, x1)), .inl x2] M (some (.inl rr.1)) rr.2) (s : Nat) (x1 : Option Nat) (x2 : Int32) (x3 : Int32) (y0 : Int32) (M : xM) (h : J_X8_readPart_35 fu r s x1 x2 x3 y0 M = some rr) : xWx p l e R S0 m ag below meth c0 D cA A0 sA M0 ad0 6 Z 0 0 35 0 0 [(0, .inr (.inr (8, some s))), (1, .inr (.inr (10, x1))), (2, .inl x2), (3, .inl x3)] [.inl y0] M := by
  rw [← q_X8_readPart_35 fu r s x1 x2 x3 y0 M] at h
  have hT : ∀ w ∈ xG, w ∈ (Cond.code yX8_readPart cX8_readPart 6 (some .boolean) :: xG) := fun w hw => List.mem_cons_of_mem _ hw
  refine xrun_sound (nst := 0) (isInit := false) (kd := kdX8) X (xcls_mono hT xclsG) (xpool_mono hT plX8) (fun z => by cases z) (fun idx v hf => xkoE_mono hT (koX8_ok _ (xfind_mem hf))) (xents (ca := _) ?_) (endZ hE).1 (endZ hE).2 (xcuts (cu := _) ?_) pr_X8_readPart.1 pr_X8_readPart.2 _ _ _ _ _ _ _ _ (xat_ok pr_X8_readPart.1 pr_X8_readPart.2).1 (xat_ok pr_X8_readPart.1 pr_X8_readPart.2).2.1 (xat_ok pr_X8_readPart.1 pr_X8_readPart.2).2.2 h
  · exact (List.forall_mem_cons.mpr ⟨(xent_met X (ci := 10) hT cd_X10_isSign lk_X8_45 rfl (by decide) rfl (by decide +kernel) (fun z => absurd z (by decide)) (hw_X10_isSign l D cA sA fu 0) (fun _ => ⟨by decide, fun _ => ⟨TX10, 10, rfl⟩⟩) (by constructor <;> omega) (by decide)), (List.forall_mem_cons.mpr ⟨(xent_met X (ci := 10) hT cd_X10_fail lk_X8_62 rfl (by decide) rfl (by decide +kernel) (fun z => absurd z (by decide)) (hw_X10_fail l D cA sA fu 0) (fun _ => ⟨by decide, fun _ => ⟨TX10, 10, rfl⟩⟩) (by constructor <;> omega) (by decide)), (fun _ h => nomatch h)⟩)⟩)
  · refine (List.forall_mem_cons.mpr ⟨?_, (fun _ h => nomatch h)⟩)
    · intro bc bs ls st M h
      replace h := xz_some h
      obtain ⟨rfl, rfl, h⟩ := h
      replace h := lR_some h
      obtain ⟨o, e0, h⟩ := h
      replace h := bd_some h
      obtain ⟨s', rfl, h⟩ := h
      replace h := lR_some h
      obtain ⟨x1', e1, h⟩ := h
      replace h := lI_some h
      obtain ⟨x2', e2, h⟩ := h
      replace h := lI_some h
      obtain ⟨x3', e3, h⟩ := h
      replace h := lI_some h
      obtain ⟨x4', e4, h⟩ := h
      replace h := xe_some h
      obtain ⟨rfl, h⟩ := h
      exact xWx_ls (wx_X8_readPart_61 X hi hroom hE fu r hr s' x1' x2' x3' x4' M h) (List.forall_mem_cons.mpr ⟨e0, (List.forall_mem_cons.mpr ⟨e1, (List.forall_mem_cons.mpr ⟨e2, (List.forall_mem_cons.mpr ⟨e3, (List.forall_mem_cons.mpr ⟨e4, (fun _ h => nomatch h)⟩)⟩)⟩)⟩)⟩)

set_option maxRecDepth 100000 in
theorem wx_X8_readPart_20 {hR : Nat} (X : xCtx p R S0 m ag c0 D cA A0 sA 6 cX8_readPart RX8 (.code yX8_readPart cX8_readPart 6 (some .boolean) :: xG) 0 0) (hi : meth.name = yX8_readPart.name) (hroom : (hR + 12) + 2 ≤ R.frames ∧ 60 * ((hR + 12) + 2) ≤ R.locals) {rr : Int32 × xM} (hE : xEnd l D cA sA cX8_readPart 6 (some .boolean) R 0 0 (some (.inl rr.1)) rr.2 p e S0 m ag below meth c0 A0 M0 ad0 Z) (fu : Nat) (r : Nat → Option Nat → Int32 → xM → Option (Int32 × xM)) (hr : ∀ (s : Nat) (x1 : Option Nat) (x2 : Int32) (M : xM) (rr : Int32 × xM), r s x1 x2 M = some rr → xMet l D cA sA yX8_readPart cX8_readPart 6 (some .boolean) xG hR 0 0 [.inr (.inr (8, some s)), .inr (.inr (10, x1)), .inl x2] M (some (.inl rr.1)) rr.2) (s : Nat) (x1 : Option Nat) (x2 : Int32) (y0 : Int32) (M : xM) (h : J_X8_readPart_20 fu r s x1 x2 y0 M = some rr) : xWx p l e R S0 m ag below meth c0 D cA A0 sA M0 ad0 6 Z 0 0 20 0 0 [(0, .inr (.inr (8, some s))), (1, .inr (.inr (10, x1))), (2, .inl x2)] [.inl y0] M := by
  rw [← q_X8_readPart_20 fu r s x1 x2 y0 M] at h
  have hT : ∀ w ∈ xG, w ∈ (Cond.code yX8_readPart cX8_readPart 6 (some .boolean) :: xG) := fun w hw => List.mem_cons_of_mem _ hw
  refine xrun_sound (nst := 0) (isInit := false) (kd := kdX8) X (xcls_mono hT xclsG) (xpool_mono hT plX8) (fun z => by cases z) (fun idx v hf => xkoE_mono hT (koX8_ok _ (xfind_mem hf))) (xents (ca := _) ?_) (endZ hE).1 (endZ hE).2 (xcuts (cu := _) ?_) pr_X8_readPart.1 pr_X8_readPart.2 _ _ _ _ _ _ _ _ (xat_ok pr_X8_readPart.1 pr_X8_readPart.2).1 (xat_ok pr_X8_readPart.1 pr_X8_readPart.2).2.1 (xat_ok pr_X8_readPart.1 pr_X8_readPart.2).2.2 h
  · exact (fun _ h => nomatch h)
  · refine (List.forall_mem_cons.mpr ⟨?_, (fun _ h => nomatch h)⟩)
    · intro bc bs ls st M h
      replace h := xz_some h
      obtain ⟨rfl, rfl, h⟩ := h
      replace h := lR_some h
      obtain ⟨o, e0, h⟩ := h
      replace h := bd_some h
      obtain ⟨s', rfl, h⟩ := h
      replace h := lR_some h
      obtain ⟨x1', e1, h⟩ := h
      replace h := lI_some h
      obtain ⟨x2', e2, h⟩ := h
      replace h := lI_some h
      obtain ⟨x3', e3, h⟩ := h
      replace h := pI_some h
      obtain ⟨y0', st, rfl, h⟩ := h
      replace h := xe_some h
      obtain ⟨rfl, h⟩ := h
      exact xWx_ls (wx_X8_readPart_35 X hi hroom hE fu r hr s' x1' x2' x3' y0' M h) (List.forall_mem_cons.mpr ⟨e0, (List.forall_mem_cons.mpr ⟨e1, (List.forall_mem_cons.mpr ⟨e2, (List.forall_mem_cons.mpr ⟨e3, (fun _ h => nomatch h)⟩)⟩)⟩)⟩)

set_option maxRecDepth 100000 in
theorem wx_X8_readPart {hR : Nat} (X : xCtx p R S0 m ag c0 D cA A0 sA 6 cX8_readPart RX8 (.code yX8_readPart cX8_readPart 6 (some .boolean) :: xG) 0 0) (hi : meth.name = yX8_readPart.name) (hroom : (hR + 12) + 2 ≤ R.frames ∧ 60 * ((hR + 12) + 2) ≤ R.locals) {rr : Int32 × xM} (hE : xEnd l D cA sA cX8_readPart 6 (some .boolean) R 0 0 (some (.inl rr.1)) rr.2 p e S0 m ag below meth c0 A0 M0 ad0 Z) (fu : Nat) (r : Nat → Option Nat → Int32 → xM → Option (Int32 × xM)) (hr : ∀ (s : Nat) (x1 : Option Nat) (x2 : Int32) (M : xM) (rr : Int32 × xM), r s x1 x2 M = some rr → xMet l D cA sA yX8_readPart cX8_readPart 6 (some .boolean) xG hR 0 0 [.inr (.inr (8, some s)), .inr (.inr (10, x1)), .inl x2] M (some (.inl rr.1)) rr.2) (s : Nat) (x1 : Option Nat) (x2 : Int32) (M : xM) (h : F_X8_readParto fu r s x1 x2 M = some rr) : xWx p l e R S0 m ag below meth c0 D cA A0 sA M0 ad0 6 Z 0 0 0 0 0 [(0, .inr (.inr (8, some s))), (1, .inr (.inr (10, x1))), (2, .inl x2)] [] M := by
  rw [← q_X8_readPart fu r s x1 x2 M] at h
  have hT : ∀ w ∈ xG, w ∈ (Cond.code yX8_readPart cX8_readPart 6 (some .boolean) :: xG) := fun w hw => List.mem_cons_of_mem _ hw
  refine xrun_sound (nst := 0) (isInit := false) (kd := kdX8) X (xcls_mono hT xclsG) (xpool_mono hT plX8) (fun z => by cases z) (fun idx v hf => xkoE_mono hT (koX8_ok _ (xfind_mem hf))) (xents (ca := _) ?_) (endZ hE).1 (endZ hE).2 (xcuts (cu := _) ?_) pr_X8_readPart.1 pr_X8_readPart.2 _ _ _ _ _ _ _ _ (xat_ok pr_X8_readPart.1 pr_X8_readPart.2).1 (xat_ok pr_X8_readPart.1 pr_X8_readPart.2).2.1 (xat_ok pr_X8_readPart.1 pr_X8_readPart.2).2.2 h
  · exact (List.forall_mem_cons.mpr ⟨(xent_met X (ci := 10) hT cd_X10_isFact lk_X8_58 rfl (by decide) rfl (by decide +kernel) (fun z => absurd z (by decide)) (hw_X10_isFact l D cA sA fu 0) (fun _ => ⟨by decide, fun _ => ⟨TX10, 10, rfl⟩⟩) (by constructor <;> omega) (by decide)), (fun _ h => nomatch h)⟩)
  · refine (List.forall_mem_cons.mpr ⟨?_, (fun _ h => nomatch h)⟩)
    · intro bc bs ls st M h
      replace h := xz_some h
      obtain ⟨rfl, rfl, h⟩ := h
      replace h := lR_some h
      obtain ⟨o, e0, h⟩ := h
      replace h := bd_some h
      obtain ⟨s', rfl, h⟩ := h
      replace h := lR_some h
      obtain ⟨x1', e1, h⟩ := h
      replace h := lI_some h
      obtain ⟨x2', e2, h⟩ := h
      replace h := pI_some h
      obtain ⟨y0', st, rfl, h⟩ := h
      replace h := xe_some h
      obtain ⟨rfl, h⟩ := h
      exact xWx_ls (wx_X8_readPart_20 X hi hroom hE fu r hr s' x1' x2' y0' M h) (List.forall_mem_cons.mpr ⟨e0, (List.forall_mem_cons.mpr ⟨e1, (List.forall_mem_cons.mpr ⟨e2, (fun _ h => nomatch h)⟩)⟩)⟩)

set_option maxRecDepth 100000 in
theorem okr_X8_readPart (l : Launch) (D : va_G) (cA : Nat → ClassId) (sA : Nat → Nat) (fu : Nat) : ∀ (d : Nat) (s : Nat) (x1 : Option Nat) (x2 : Int32) (M : xM) (rr : Int32 × xM), F_X8_readPart fu d s x1 x2 M = some rr → xMet l D cA sA yX8_readPart cX8_readPart 6 (some .boolean) xG (13 * (d + 1)) 0 0 [.inr (.inr (8, some s)), .inr (.inr (10, x1)), .inl x2] M (some (.inl rr.1)) rr.2 := by
  intro d
  induction d with
  | zero => intro s x1 x2 M rr h; cases h
  | succ d ih =>
    intro s x1 x2 M rr h
    exact xmet_of (by decide +kernel) (Nat.le_of_ble_eq_true rfl) (fun p e s1 m ag below meth c0 A0 ad0 Z X hn hE => wx_X8_readPart (hR := 13 * (d + 1)) X hn ⟨by show 13 * (d + 1) + 12 + 2 ≤ 13 * (d + 1 + 1) + 1; omega, by show 60 * (13 * (d + 1) + 12 + 2) ≤ 60 * (13 * (d + 1 + 1) + 1); omega⟩ hE fu (F_X8_readPart fu d) ih s x1 x2 M h)
theorem cd_X8_read : Cond.code yX8_read cX8_read 2 (some .boolean) ∈ xG := (xg 811 (by decide +kernel) (by decide +kernel))
theorem pr_X8_read : (∀ e ∈ pX8_read, xrow cX8_read 2 kdX8 flX8 0 false RX8 e) ∧ xnext pX8_read = true := xrows (by decide +kernel)
set_option maxRecDepth 100000 in
theorem wx_X8_read (X : xCtx p R S0 m ag c0 D cA A0 sA 2 cX8_read RX8 (.code yX8_read cX8_read 2 (some .boolean) :: xG) 0 0) (hi : meth.name = yX8_read.name) (hroom : 233 + 2 ≤ R.frames ∧ 60 * (233 + 2) ≤ R.locals) {rr : Int32 × xM} (hE : xEnd l D cA sA cX8_read 2 (some .boolean) R 0 0 (some (.inl rr.1)) rr.2 p e S0 m ag below meth c0 A0 M0 ad0 Z) (fu : Nat) (s : Nat) (x1 : Option Nat) (M : xM) (h : F_X8_read fu s x1 M = some rr) : xWx p l e R S0 m ag below meth c0 D cA A0 sA M0 ad0 2 Z 0 0 0 0 0 [(0, .inr (.inr (8, some s))), (1, .inr (.inr (10, x1)))] [] M := by
  rw [← q_X8_read fu s x1 M] at h
  have hT : ∀ w ∈ xG, w ∈ (Cond.code yX8_read cX8_read 2 (some .boolean) :: xG) := fun w hw => List.mem_cons_of_mem _ hw
  refine xrun_sound (nst := 0) (isInit := false) (kd := kdX8) X (xcls_mono hT xclsG) (xpool_mono hT plX8) (fun z => by cases z) (fun idx v hf => xkoE_mono hT (koX8_ok _ (xfind_mem hf))) (xents (ca := _) ?_) (endZ hE).1 (endZ hE).2 (xcuts (cu := _) ?_) pr_X8_read.1 pr_X8_read.2 _ _ _ _ _ _ _ _ (xat_ok pr_X8_read.1 pr_X8_read.2).1 (xat_ok pr_X8_read.1 pr_X8_read.2).2.1 (xat_ok pr_X8_read.1 pr_X8_read.2).2.2 h
  · exact (List.forall_mem_cons.mpr ⟨(xent_met X (ci := 8) hT cd_X8_readAll lk_X8_23 rfl (by decide) rfl (by decide +kernel) (fun z => absurd z (by decide)) (hw_X8_readAll l D cA sA fu (F_X8_readPart fu 16) _ (okr_X8_readPart l D cA sA fu 16) 0) (fun _ => ⟨by decide, fun _ => ⟨TX8, 4, rfl⟩⟩) (by constructor <;> omega) (by decide)), (fun _ h => nomatch h)⟩)
  · exact (fun _ h => nomatch h)

theorem ok_X8_read (l : Launch) (D : va_G) (cA : Nat → ClassId) (sA : Nat → Nat) (fu : Nat) (s : Nat) (x1 : Option Nat) (M : xM) {rr : Int32 × xM} (h : F_X8_read fu s x1 M = some rr) : xMet l D cA sA yX8_read cX8_read 2 (some .boolean) xG (233 + 1) 0 0 [.inr (.inr (8, some s)), .inr (.inr (10, x1))] M (some (.inl rr.1)) rr.2 :=
  xmet_of (by decide +kernel) (Nat.le_of_ble_eq_true rfl) (fun p e s1 m ag below meth c0 A0 ad0 Z X hn hE => wx_X8_read X hn ⟨Nat.le_refl _, Nat.le_refl _⟩ hE fu s x1 M h)
theorem hw_X8_read (l : Launch) (D : va_G) (cA : Nat → ClassId) (sA : Nat → Nat) (fu : Nat) {ρ : Type} {r0 : ρ} (kd1 : Nat) : ∀ (as : List xV) (M : xM) (k : Option xV → xM → Option ρ), w_X8_read fu as M k = some r0 → ∃ v M', xMet l D cA sA yX8_read cX8_read 2 (some .boolean) xG (233 + 1) 0 0 as M v M' ∧ k v M' = some r0 ∧ (kd1 ≠ 2 → ∃ a as', as = .inr (.inr (8, some a)) :: as') := by
  intro as M k h
  unfold w_X8_read at h
  replace h := pR_some h
  obtain ⟨o, as1, rfl, h⟩ := h
  replace h := bd_some h
  obtain ⟨s, rfl, h⟩ := h
  replace h := pR_some h
  obtain ⟨x1, as1, rfl, h⟩ := h
  replace h := xe_some h
  obtain ⟨rfl, h⟩ := h
  obtain ⟨p1, hp, h⟩ := Option.bind_eq_some_iff.mp h
  exact ⟨_, _, ok_X8_read l D cA sA fu s x1 M hp, h, fun _ => ⟨_, _, rfl⟩⟩
theorem lk_X7_74 : xLink xG RX7 74 0 yX7_readFile 1 := ⟨Or.inl (xg 786 (by decide +kernel) (by decide +kernel)), (xg 788 (by decide +kernel) (by decide +kernel)), (xg 6 (by decide +kernel) (by decide +kernel)), (xg 130 (by decide +kernel) (by decide +kernel)), ⟨7, by decide, TX7, 9, rfl⟩⟩
theorem lk_X7_87 : xLink xG RX7 87 0 yX8_read 1 := ⟨Or.inl (xg 808 (by decide +kernel) (by decide +kernel)), (xg 809 (by decide +kernel) (by decide +kernel)), (xg 810 (by decide +kernel) (by decide +kernel)), (xg 131 (by decide +kernel) (by decide +kernel)), ⟨8, by decide, TX8, 4, rfl⟩⟩
theorem cd_X7_readLine : Cond.code yX7_readLine cX7_readLine 3 (some .boolean) ∈ xG := (xg 785 (by decide +kernel) (by decide +kernel))
theorem pr_X7_readLine : (∀ e ∈ pX7_readLine, xrow cX7_readLine 3 kdX7 flX7 0 false RX7 e) ∧ xnext pX7_readLine = true := xrows (by decide +kernel)
set_option maxRecDepth 100000 in
theorem wx_X7_readLine (X : xCtx p R S0 m ag c0 D cA A0 sA 3 cX7_readLine RX7 (.code yX7_readLine cX7_readLine 3 (some .boolean) :: xG) 0 0) (hi : meth.name = yX7_readLine.name) (hroom : 234 + 2 ≤ R.frames ∧ 60 * (234 + 2) ≤ R.locals) {rr : Int32 × xM} (hE : xEnd l D cA sA cX7_readLine 3 (some .boolean) R 0 0 (some (.inl rr.1)) rr.2 p e S0 m ag below meth c0 A0 M0 ad0 Z) (fu : Nat) (s : Nat) (x1 : Option Nat) (M : xM) (h : F_X7_readLine fu s x1 M = some rr) : xWx p l e R S0 m ag below meth c0 D cA A0 sA M0 ad0 3 Z 0 0 0 0 0 [(0, .inr (.inr (7, some s))), (1, .inr (.inr (10, x1)))] [] M := by
  rw [← q_X7_readLine fu s x1 M] at h
  have hT : ∀ w ∈ xG, w ∈ (Cond.code yX7_readLine cX7_readLine 3 (some .boolean) :: xG) := fun w hw => List.mem_cons_of_mem _ hw
  refine xrun_sound (nst := 0) (isInit := false) (kd := kdX7) X (xcls_mono hT xclsG) (xpool_mono hT plX7) (fun z => by cases z) (fun idx v hf => xkoE_mono hT (koX7_ok _ (xfind_mem hf))) (xents (ca := _) ?_) (endZ hE).1 (endZ hE).2 (xcuts (cu := _) ?_) pr_X7_readLine.1 pr_X7_readLine.2 _ _ _ _ _ _ _ _ (xat_ok pr_X7_readLine.1 pr_X7_readLine.2).1 (xat_ok pr_X7_readLine.1 pr_X7_readLine.2).2.1 (xat_ok pr_X7_readLine.1 pr_X7_readLine.2).2.2 h
  · exact (List.forall_mem_cons.mpr ⟨(xent_met X (ci := 7) hT cd_X7_readFile lk_X7_74 rfl (by decide) rfl (by decide +kernel) (fun z => absurd z (by decide)) (hw_X7_readFile l D cA sA fu 0) (fun _ => ⟨by decide, fun _ => ⟨TX7, 9, rfl⟩⟩) (by constructor <;> omega) (by decide)), (List.forall_mem_cons.mpr ⟨(xent_met X (ci := 10) hT cd_X10_fail lk_X7_77 rfl (by decide) rfl (by decide +kernel) (fun z => absurd z (by decide)) (hw_X10_fail l D cA sA fu 0) (fun _ => ⟨by decide, fun _ => ⟨TX10, 10, rfl⟩⟩) (by constructor <;> omega) (by decide)), (List.forall_mem_cons.mpr ⟨(xent_met X (ci := 10) hT cd_X10_next lk_X7_80 rfl (by decide) rfl (by decide +kernel) (fun z => absurd z (by decide)) (hw_X10_next l D cA sA fu 0) (fun _ => ⟨by decide, fun _ => ⟨TX10, 10, rfl⟩⟩) (by constructor <;> omega) (by decide)), (List.forall_mem_cons.mpr ⟨(xent_met X (ci := 10) hT cd_X10_takeNumber lk_X7_83 rfl (by decide) rfl (by decide +kernel) (fun z => absurd z (by decide)) (hw_X10_takeNumber l D cA sA fu 0) (fun _ => ⟨by decide, fun _ => ⟨TX10, 10, rfl⟩⟩) (by constructor <;> omega) (by decide)), (List.forall_mem_cons.mpr ⟨(xent_met X (ci := 8) hT cd_X8_read lk_X7_87 rfl (by decide) rfl (by decide +kernel) (fun z => absurd z (by decide)) (hw_X8_read l D cA sA fu 0) (fun _ => ⟨by decide, fun _ => ⟨TX8, 4, rfl⟩⟩) (by constructor <;> omega) (by decide)), (fun _ h => nomatch h)⟩)⟩)⟩)⟩)⟩)
  · exact (fun _ h => nomatch h)

theorem ok_X7_readLine (l : Launch) (D : va_G) (cA : Nat → ClassId) (sA : Nat → Nat) (fu : Nat) (s : Nat) (x1 : Option Nat) (M : xM) {rr : Int32 × xM} (h : F_X7_readLine fu s x1 M = some rr) : xMet l D cA sA yX7_readLine cX7_readLine 3 (some .boolean) xG (234 + 1) 0 0 [.inr (.inr (7, some s)), .inr (.inr (10, x1))] M (some (.inl rr.1)) rr.2 :=
  xmet_of (by decide +kernel) (Nat.le_of_ble_eq_true rfl) (fun p e s1 m ag below meth c0 A0 ad0 Z X hn hE => wx_X7_readLine X hn ⟨Nat.le_refl _, Nat.le_refl _⟩ hE fu s x1 M h)
theorem hw_X7_readLine (l : Launch) (D : va_G) (cA : Nat → ClassId) (sA : Nat → Nat) (fu : Nat) {ρ : Type} {r0 : ρ} (kd1 : Nat) : ∀ (as : List xV) (M : xM) (k : Option xV → xM → Option ρ), w_X7_readLine fu as M k = some r0 → ∃ v M', xMet l D cA sA yX7_readLine cX7_readLine 3 (some .boolean) xG (234 + 1) 0 0 as M v M' ∧ k v M' = some r0 ∧ (kd1 ≠ 2 → ∃ a as', as = .inr (.inr (7, some a)) :: as') := by
  intro as M k h
  unfold w_X7_readLine at h
  replace h := pR_some h
  obtain ⟨o, as1, rfl, h⟩ := h
  replace h := bd_some h
  obtain ⟨s, rfl, h⟩ := h
  replace h := pR_some h
  obtain ⟨x1, as1, rfl, h⟩ := h
  replace h := xe_some h
  obtain ⟨rfl, h⟩ := h
  obtain ⟨p1, hp, h⟩ := Option.bind_eq_some_iff.mp h
  exact ⟨_, _, ok_X7_readLine l D cA sA fu s x1 M hp, h, fun _ => ⟨_, _, rfl⟩⟩
theorem lk_X7_63 : xLink xG RX7 63 0 yX7_readLine 1 := ⟨Or.inl (xg 782 (by decide +kernel) (by decide +kernel)), (xg 784 (by decide +kernel) (by decide +kernel)), (xg 5 (by decide +kernel) (by decide +kernel)), (xg 130 (by decide +kernel) (by decide +kernel)), ⟨7, by decide, TX7, 9, rfl⟩⟩
theorem lk_X7_67 : xLink xG RX7 67 0 yX10_takeSign 1 := ⟨Or.inl (xg 846 (by decide +kernel) (by decide +kernel)), (xg 847 (by decide +kernel) (by decide +kernel)), (xg 848 (by decide +kernel) (by decide +kernel)), (xg 129 (by decide +kernel) (by decide +kernel)), ⟨10, by decide, TX10, 10, rfl⟩⟩
theorem lk_X7_52 : xLink xG RX7 52 0 yX7_clear 0 := ⟨Or.inl (xg 643 (by decide +kernel) (by decide +kernel)), (xg 645 (by decide +kernel) (by decide +kernel)), (xg 0 (by decide +kernel) (by decide +kernel)), (xg 130 (by decide +kernel) (by decide +kernel)), ⟨7, by decide, TX7, 9, rfl⟩⟩
theorem lk_X7_55 : xLink xG RX7 55 0 yX10_begin 0 := ⟨Or.inl (xg 647 (by decide +kernel) (by decide +kernel)), (xg 648 (by decide +kernel) (by decide +kernel)), (xg 649 (by decide +kernel) (by decide +kernel)), (xg 129 (by decide +kernel) (by decide +kernel)), ⟨10, by decide, TX10, 10, rfl⟩⟩
theorem cd_X7_read : Cond.code yX7_read cX7_read 4 (some .boolean) ∈ xG := (xg 642 (by decide +kernel) (by decide +kernel))
theorem pr_X7_read : (∀ e ∈ pX7_read, xrow cX7_read 4 kdX7 flX7 0 false RX7 e) ∧ xnext pX7_read = true := xrows (by decide +kernel)
set_option maxRecDepth 100000 in
theorem wx_X7_read_12 (X : xCtx p R S0 m ag c0 D cA A0 sA 4 cX7_read RX7 (.code yX7_read cX7_read 4 (some .boolean) :: xG) 0 0) (hi : meth.name = yX7_read.name) (hroom : 235 + 2 ≤ R.frames ∧ 60 * (235 + 2) ≤ R.locals) {rr : Int32 × xM} (hE : xEnd l D cA sA cX7_read 4 (some .boolean) R 0 0 (some (.inl rr.1)) rr.2 p e S0 m ag below meth c0 A0 M0 ad0 Z) (fu : Nat) : ∀ (n : Nat) (s : Nat) (x1 : Option Nat) (x2 : Int32) (x3 : Int32) (M : xM), L_X7_read_12 fu n s x1 x2 x3 M = some rr → xWx p l e R S0 m ag below meth c0 D cA A0 sA M0 ad0 4 Z 0 0 12 0 0 [(0, .inr (.inr (7, some s))), (1, .inr (.inr (10, x1))), (2, .inl x2), (3, .inl x3)] [] M := by
  intro n
  induction n with
  | zero => intro s x1 x2 x3 M h; cases h
  | succ n ih =>
    intro s x1 x2 x3 M h
    rw [← q_X7_read_12 fu n s x1 x2 x3 M] at h
    have hT : ∀ w ∈ xG, w ∈ (Cond.code yX7_read cX7_read 4 (some .boolean) :: xG) := fun w hw => List.mem_cons_of_mem _ hw
    refine xrun_sound (nst := 0) (isInit := false) (kd := kdX7) X (xcls_mono hT xclsG) (xpool_mono hT plX7) (fun z => by cases z) (fun idx v hf => xkoE_mono hT (koX7_ok _ (xfind_mem hf))) (xents (ca := _) ?_) (endZ hE).1 (endZ hE).2 (xcuts (cu := _) ?_) pr_X7_read.1 pr_X7_read.2 _ _ _ _ _ _ _ _ (xat_ok pr_X7_read.1 pr_X7_read.2).1 (xat_ok pr_X7_read.1 pr_X7_read.2).2.1 (xat_ok pr_X7_read.1 pr_X7_read.2).2.2 h
    · exact (List.forall_mem_cons.mpr ⟨(xent_met X (ci := 7) hT cd_X7_readLine lk_X7_63 rfl (by decide) rfl (by decide +kernel) (fun z => absurd z (by decide)) (hw_X7_readLine l D cA sA fu 0) (fun _ => ⟨by decide, fun _ => ⟨TX7, 9, rfl⟩⟩) (by constructor <;> omega) (by decide)), (List.forall_mem_cons.mpr ⟨(xent_met X (ci := 10) hT cd_X10_takeSign lk_X7_67 rfl (by decide) rfl (by decide +kernel) (fun z => absurd z (by decide)) (hw_X10_takeSign l D cA sA fu 0) (fun _ => ⟨by decide, fun _ => ⟨TX10, 10, rfl⟩⟩) (by constructor <;> omega) (by decide)), (fun _ h => nomatch h)⟩)⟩)
    · refine (List.forall_mem_cons.mpr ⟨?_, (fun _ h => nomatch h)⟩)
      · intro bc bs ls st M h
        replace h := xz_some h
        obtain ⟨rfl, rfl, h⟩ := h
        replace h := lR_some h
        obtain ⟨o, e0, h⟩ := h
        replace h := bd_some h
        obtain ⟨s', rfl, h⟩ := h
        replace h := lR_some h
        obtain ⟨x1', e1, h⟩ := h
        replace h := lI_some h
        obtain ⟨x2', e2, h⟩ := h
        replace h := lI_some h
        obtain ⟨x3', e3, h⟩ := h
        replace h := xe_some h
        obtain ⟨rfl, h⟩ := h
        exact xWx_ls (ih s' x1' x2' x3' M h) (List.forall_mem_cons.mpr ⟨e0, (List.forall_mem_cons.mpr ⟨e1, (List.forall_mem_cons.mpr ⟨e2, (List.forall_mem_cons.mpr ⟨e3, (fun _ h => nomatch h)⟩)⟩)⟩)⟩)

set_option maxRecDepth 100000 in
theorem wx_X7_read (X : xCtx p R S0 m ag c0 D cA A0 sA 4 cX7_read RX7 (.code yX7_read cX7_read 4 (some .boolean) :: xG) 0 0) (hi : meth.name = yX7_read.name) (hroom : 235 + 2 ≤ R.frames ∧ 60 * (235 + 2) ≤ R.locals) {rr : Int32 × xM} (hE : xEnd l D cA sA cX7_read 4 (some .boolean) R 0 0 (some (.inl rr.1)) rr.2 p e S0 m ag below meth c0 A0 M0 ad0 Z) (fu : Nat) (s : Nat) (x1 : Option Nat) (M : xM) (h : F_X7_read fu s x1 M = some rr) : xWx p l e R S0 m ag below meth c0 D cA A0 sA M0 ad0 4 Z 0 0 0 0 0 [(0, .inr (.inr (7, some s))), (1, .inr (.inr (10, x1)))] [] M := by
  rw [← q_X7_read fu s x1 M] at h
  have hT : ∀ w ∈ xG, w ∈ (Cond.code yX7_read cX7_read 4 (some .boolean) :: xG) := fun w hw => List.mem_cons_of_mem _ hw
  refine xrun_sound (nst := 0) (isInit := false) (kd := kdX7) X (xcls_mono hT xclsG) (xpool_mono hT plX7) (fun z => by cases z) (fun idx v hf => xkoE_mono hT (koX7_ok _ (xfind_mem hf))) (xents (ca := _) ?_) (endZ hE).1 (endZ hE).2 (xcuts (cu := _) ?_) pr_X7_read.1 pr_X7_read.2 _ _ _ _ _ _ _ _ (xat_ok pr_X7_read.1 pr_X7_read.2).1 (xat_ok pr_X7_read.1 pr_X7_read.2).2.1 (xat_ok pr_X7_read.1 pr_X7_read.2).2.2 h
  · exact (List.forall_mem_cons.mpr ⟨(xent_met X (ci := 7) hT cd_X7_clear lk_X7_52 rfl (by decide) rfl (by decide +kernel) (fun z => absurd z (by decide)) (hw_X7_clear l D cA sA fu 0) (fun _ => ⟨by decide, fun _ => ⟨TX7, 9, rfl⟩⟩) (by constructor <;> omega) (by decide)), (List.forall_mem_cons.mpr ⟨(xent_met X (ci := 10) hT cd_X10_begin lk_X7_55 rfl (by decide) rfl (by decide +kernel) (fun z => absurd z (by decide)) (hw_X10_begin l D cA sA fu 0) (fun _ => ⟨by decide, fun _ => ⟨TX10, 10, rfl⟩⟩) (by constructor <;> omega) (by decide)), (fun _ h => nomatch h)⟩)⟩)
  · refine (List.forall_mem_cons.mpr ⟨?_, (fun _ h => nomatch h)⟩)
    · intro bc bs ls st M h
      replace h := xz_some h
      obtain ⟨rfl, rfl, h⟩ := h
      replace h := lR_some h
      obtain ⟨o, e0, h⟩ := h
      replace h := bd_some h
      obtain ⟨s', rfl, h⟩ := h
      replace h := lR_some h
      obtain ⟨x1', e1, h⟩ := h
      replace h := lI_some h
      obtain ⟨x2', e2, h⟩ := h
      replace h := lI_some h
      obtain ⟨x3', e3, h⟩ := h
      replace h := xe_some h
      obtain ⟨rfl, h⟩ := h
      exact xWx_ls (wx_X7_read_12 X hi hroom hE fu fu s' x1' x2' x3' M h) (List.forall_mem_cons.mpr ⟨e0, (List.forall_mem_cons.mpr ⟨e1, (List.forall_mem_cons.mpr ⟨e2, (List.forall_mem_cons.mpr ⟨e3, (fun _ h => nomatch h)⟩)⟩)⟩)⟩)

theorem ok_X7_read (l : Launch) (D : va_G) (cA : Nat → ClassId) (sA : Nat → Nat) (fu : Nat) (s : Nat) (x1 : Option Nat) (M : xM) {rr : Int32 × xM} (h : F_X7_read fu s x1 M = some rr) : xMet l D cA sA yX7_read cX7_read 4 (some .boolean) xG (235 + 1) 0 0 [.inr (.inr (7, some s)), .inr (.inr (10, x1))] M (some (.inl rr.1)) rr.2 :=
  xmet_of (by decide +kernel) (Nat.le_of_ble_eq_true rfl) (fun p e s1 m ag below meth c0 A0 ad0 Z X hn hE => wx_X7_read X hn ⟨Nat.le_refl _, Nat.le_refl _⟩ hE fu s x1 M h)
theorem hw_X7_read (l : Launch) (D : va_G) (cA : Nat → ClassId) (sA : Nat → Nat) (fu : Nat) {ρ : Type} {r0 : ρ} (kd1 : Nat) : ∀ (as : List xV) (M : xM) (k : Option xV → xM → Option ρ), w_X7_read fu as M k = some r0 → ∃ v M', xMet l D cA sA yX7_read cX7_read 4 (some .boolean) xG (235 + 1) 0 0 as M v M' ∧ k v M' = some r0 ∧ (kd1 ≠ 2 → ∃ a as', as = .inr (.inr (7, some a)) :: as') := by
  intro as M k h
  unfold w_X7_read at h
  replace h := pR_some h
  obtain ⟨o, as1, rfl, h⟩ := h
  replace h := bd_some h
  obtain ⟨s, rfl, h⟩ := h
  replace h := pR_some h
  obtain ⟨x1, as1, rfl, h⟩ := h
  replace h := xe_some h
  obtain ⟨rfl, h⟩ := h
  obtain ⟨p1, hp, h⟩ := Option.bind_eq_some_iff.mp h
  exact ⟨_, _, ok_X7_read l D cA sA fu s x1 M hp, h, fun _ => ⟨_, _, rfl⟩⟩
theorem lk_X11_98 : xLink xG RX11 98 0 yX7_read 1 := ⟨Or.inl (xg 639 (by decide +kernel) (by decide +kernel)), (xg 640 (by decide +kernel) (by decide +kernel)), (xg 641 (by decide +kernel) (by decide +kernel)), (xg 130 (by decide +kernel) (by decide +kernel)), ⟨7, by decide, TX7, 9, rfl⟩⟩
theorem lk_X11_102 : xLink xG RX11 102 0 yX11_startAnew 0 := ⟨Or.inl (xg 851 (by decide +kernel) (by decide +kernel)), (xg 853 (by decide +kernel) (by decide +kernel)), (xg 13 (by decide +kernel) (by decide +kernel)), (xg 128 (by decide +kernel) (by decide +kernel)), ⟨11, by decide, TX11, 14, rfl⟩⟩
theorem lk_X11_105 : xLink xG RX11 105 0 yX10_taken 1 := ⟨Or.inl (xg 875 (by decide +kernel) (by decide +kernel)), (xg 876 (by decide +kernel) (by decide +kernel)), (xg 877 (by decide +kernel) (by decide +kernel)), (xg 129 (by decide +kernel) (by decide +kernel)), ⟨10, by decide, TX10, 10, rfl⟩⟩
theorem cd_X11_store : Cond.code yX11_store cX11_store 3 (some .int) ∈ xG := (xg 638 (by decide +kernel) (by decide +kernel))
theorem pr_X11_store : (∀ e ∈ pX11_store, xrow cX11_store 3 kdX11 flX11 0 false RX11 e) ∧ xnext pX11_store = true := xrows (by decide +kernel)
set_option maxRecDepth 100000 in
theorem wx_X11_store (X : xCtx p R S0 m ag c0 D cA A0 sA 3 cX11_store RX11 (.code yX11_store cX11_store 3 (some .int) :: xG) 0 0) (hi : meth.name = yX11_store.name) (hroom : 236 + 2 ≤ R.frames ∧ 60 * (236 + 2) ≤ R.locals) {rr : Int32 × xM} (hE : xEnd l D cA sA cX11_store 3 (some .int) R 0 0 (some (.inl rr.1)) rr.2 p e S0 m ag below meth c0 A0 M0 ad0 Z) (fu : Nat) (s : Nat) (M : xM) (h : F_X11_store fu s M = some rr) : xWx p l e R S0 m ag below meth c0 D cA A0 sA M0 ad0 3 Z 0 0 0 0 0 [(0, .inr (.inr (11, some s)))] [] M := by
  rw [← q_X11_store fu s M] at h
  have hT : ∀ w ∈ xG, w ∈ (Cond.code yX11_store cX11_store 3 (some .int) :: xG) := fun w hw => List.mem_cons_of_mem _ hw
  refine xrun_sound (nst := 0) (isInit := false) (kd := kdX11) X (xcls_mono hT xclsG) (xpool_mono hT plX11) (fun z => by cases z) (fun idx v hf => xkoE_mono hT (koX11_ok _ (xfind_mem hf))) (xents (ca := _) ?_) (endI hE).1 (endI hE).2 (xcuts (cu := _) ?_) pr_X11_store.1 pr_X11_store.2 _ _ _ _ _ _ _ _ (xat_ok pr_X11_store.1 pr_X11_store.2).1 (xat_ok pr_X11_store.1 pr_X11_store.2).2.1 (xat_ok pr_X11_store.1 pr_X11_store.2).2.2 h
  · exact (List.forall_mem_cons.mpr ⟨(xent_met X (ci := 7) hT cd_X7_read lk_X11_98 rfl (by decide) rfl (by decide +kernel) (fun z => absurd z (by decide)) (hw_X7_read l D cA sA fu 0) (fun _ => ⟨by decide, fun _ => ⟨TX7, 9, rfl⟩⟩) (by constructor <;> omega) (by decide)), (List.forall_mem_cons.mpr ⟨(xent_met X (ci := 11) hT cd_X11_startAnew lk_X11_102 rfl (by decide) rfl (by decide +kernel) (fun z => absurd z (by decide)) (hw_X11_startAnew l D cA sA fu 0) (fun _ => ⟨by decide, fun _ => ⟨TX11, 14, rfl⟩⟩) (by constructor <;> omega) (by decide)), (List.forall_mem_cons.mpr ⟨(xent_met X (ci := 10) hT cd_X10_taken lk_X11_105 rfl (by decide) rfl (by decide +kernel) (fun z => absurd z (by decide)) (hw_X10_taken l D cA sA fu 0) (fun _ => ⟨by decide, fun _ => ⟨TX10, 10, rfl⟩⟩) (by constructor <;> omega) (by decide)), (fun _ h => nomatch h)⟩)⟩)⟩)
  · exact (fun _ h => nomatch h)

theorem ok_X11_store (l : Launch) (D : va_G) (cA : Nat → ClassId) (sA : Nat → Nat) (fu : Nat) (s : Nat) (M : xM) {rr : Int32 × xM} (h : F_X11_store fu s M = some rr) : xMet l D cA sA yX11_store cX11_store 3 (some .int) xG (236 + 1) 0 0 [.inr (.inr (11, some s))] M (some (.inl rr.1)) rr.2 :=
  xmet_of (by decide +kernel) (Nat.le_of_ble_eq_true rfl) (fun p e s1 m ag below meth c0 A0 ad0 Z X hn hE => wx_X11_store X hn ⟨Nat.le_refl _, Nat.le_refl _⟩ hE fu s M h)
theorem hw_X11_store (l : Launch) (D : va_G) (cA : Nat → ClassId) (sA : Nat → Nat) (fu : Nat) {ρ : Type} {r0 : ρ} (kd1 : Nat) : ∀ (as : List xV) (M : xM) (k : Option xV → xM → Option ρ), w_X11_store fu as M k = some r0 → ∃ v M', xMet l D cA sA yX11_store cX11_store 3 (some .int) xG (236 + 1) 0 0 as M v M' ∧ k v M' = some r0 ∧ (kd1 ≠ 2 → ∃ a as', as = .inr (.inr (11, some a)) :: as') := by
  intro as M k h
  unfold w_X11_store at h
  replace h := pR_some h
  obtain ⟨o, as1, rfl, h⟩ := h
  replace h := bd_some h
  obtain ⟨s, rfl, h⟩ := h
  replace h := xe_some h
  obtain ⟨rfl, h⟩ := h
  obtain ⟨p1, hp, h⟩ := Option.bind_eq_some_iff.mp h
  exact ⟨_, _, ok_X11_store l D cA sA fu s M hp, h, fun _ => ⟨_, _, rfl⟩⟩
theorem lk_X11_266 : xLink xG RX11 266 0 yX0_spreadOfErasures 0 := ⟨Or.inl (xg 1290 (by decide +kernel) (by decide +kernel)), (xg 1291 (by decide +kernel) (by decide +kernel)), (xg 1292 (by decide +kernel) (by decide +kernel)), (xg 135 (by decide +kernel) (by decide +kernel)), ⟨0, by decide, TX0, 16, rfl⟩⟩
theorem cd_X11_wear : Cond.code yX11_wear cX11_wear 1 (some .int) ∈ xG := (xg 1289 (by decide +kernel) (by decide +kernel))
theorem pr_X11_wear : (∀ e ∈ pX11_wear, xrow cX11_wear 1 kdX11 flX11 0 false RX11 e) ∧ xnext pX11_wear = true := xrows (by decide +kernel)
set_option maxRecDepth 100000 in
theorem wx_X11_wear (X : xCtx p R S0 m ag c0 D cA A0 sA 1 cX11_wear RX11 (.code yX11_wear cX11_wear 1 (some .int) :: xG) 0 0) (hi : meth.name = yX11_wear.name) (hroom : 7 + 2 ≤ R.frames ∧ 60 * (7 + 2) ≤ R.locals) {rr : Int32 × xM} (hE : xEnd l D cA sA cX11_wear 1 (some .int) R 0 0 (some (.inl rr.1)) rr.2 p e S0 m ag below meth c0 A0 M0 ad0 Z) (fu : Nat) (s : Nat) (M : xM) (h : F_X11_wear fu s M = some rr) : xWx p l e R S0 m ag below meth c0 D cA A0 sA M0 ad0 1 Z 0 0 0 0 0 [(0, .inr (.inr (11, some s)))] [] M := by
  rw [← q_X11_wear fu s M] at h
  have hT : ∀ w ∈ xG, w ∈ (Cond.code yX11_wear cX11_wear 1 (some .int) :: xG) := fun w hw => List.mem_cons_of_mem _ hw
  refine xrun_sound (nst := 0) (isInit := false) (kd := kdX11) X (xcls_mono hT xclsG) (xpool_mono hT plX11) (fun z => by cases z) (fun idx v hf => xkoE_mono hT (koX11_ok _ (xfind_mem hf))) (xents (ca := _) ?_) (endI hE).1 (endI hE).2 (xcuts (cu := _) ?_) pr_X11_wear.1 pr_X11_wear.2 _ _ _ _ _ _ _ _ (xat_ok pr_X11_wear.1 pr_X11_wear.2).1 (xat_ok pr_X11_wear.1 pr_X11_wear.2).2.1 (xat_ok pr_X11_wear.1 pr_X11_wear.2).2.2 h
  · exact (List.forall_mem_cons.mpr ⟨(xent_met X (ci := 0) hT cd_X0_spreadOfErasures lk_X11_266 rfl (by decide) rfl (by decide +kernel) (fun z => absurd z (by decide)) (hw_X0_spreadOfErasures l D cA sA fu 0) (fun _ => ⟨by decide, fun _ => ⟨TX0, 16, rfl⟩⟩) (by constructor <;> omega) (by decide)), (fun _ h => nomatch h)⟩)
  · exact (fun _ h => nomatch h)

theorem ok_X11_wear (l : Launch) (D : va_G) (cA : Nat → ClassId) (sA : Nat → Nat) (fu : Nat) (s : Nat) (M : xM) {rr : Int32 × xM} (h : F_X11_wear fu s M = some rr) : xMet l D cA sA yX11_wear cX11_wear 1 (some .int) xG (7 + 1) 0 0 [.inr (.inr (11, some s))] M (some (.inl rr.1)) rr.2 :=
  xmet_of (by decide +kernel) (Nat.le_of_ble_eq_true rfl) (fun p e s1 m ag below meth c0 A0 ad0 Z X hn hE => wx_X11_wear X hn ⟨Nat.le_refl _, Nat.le_refl _⟩ hE fu s M h)
theorem hw_X11_wear (l : Launch) (D : va_G) (cA : Nat → ClassId) (sA : Nat → Nat) (fu : Nat) {ρ : Type} {r0 : ρ} (kd1 : Nat) : ∀ (as : List xV) (M : xM) (k : Option xV → xM → Option ρ), w_X11_wear fu as M k = some r0 → ∃ v M', xMet l D cA sA yX11_wear cX11_wear 1 (some .int) xG (7 + 1) 0 0 as M v M' ∧ k v M' = some r0 ∧ (kd1 ≠ 2 → ∃ a as', as = .inr (.inr (11, some a)) :: as') := by
  intro as M k h
  unfold w_X11_wear at h
  replace h := pR_some h
  obtain ⟨o, as1, rfl, h⟩ := h
  replace h := bd_some h
  obtain ⟨s, rfl, h⟩ := h
  replace h := xe_some h
  obtain ⟨rfl, h⟩ := h
  obtain ⟨p1, hp, h⟩ := Option.bind_eq_some_iff.mp h
  exact ⟨_, _, ok_X11_wear l D cA sA fu s M hp, h, fun _ => ⟨_, _, rfl⟩⟩
theorem lk_X9_50 : xLink xG RX9 50 0 yX10_fail 1 := ⟨Or.inl (xg 894 (by decide +kernel) (by decide +kernel)), (xg 791 (by decide +kernel) (by decide +kernel)), (xg 792 (by decide +kernel) (by decide +kernel)), (xg 129 (by decide +kernel) (by decide +kernel)), ⟨10, by decide, TX10, 10, rfl⟩⟩
theorem lk_X9_54 : xLink xG RX9 54 0 yX10_next 0 := ⟨Or.inl (xg 895 (by decide +kernel) (by decide +kernel)), (xg 652 (by decide +kernel) (by decide +kernel)), (xg 653 (by decide +kernel) (by decide +kernel)), (xg 129 (by decide +kernel) (by decide +kernel)), ⟨10, by decide, TX10, 10, rfl⟩⟩
theorem lk_X9_64 : xLink xG RX9 64 0 yX10_isName 0 := ⟨Or.inl (xg 900 (by decide +kernel) (by decide +kernel)), (xg 796 (by decide +kernel) (by decide +kernel)), (xg 797 (by decide +kernel) (by decide +kernel)), (xg 129 (by decide +kernel) (by decide +kernel)), ⟨10, by decide, TX10, 10, rfl⟩⟩
theorem lk_X9_72 : xLink xG RX9 72 0 yX7_fileNamed 1 := ⟨Or.inl (xg 901 (by decide +kernel) (by decide +kernel)), (xg 800 (by decide +kernel) (by decide +kernel)), (xg 801 (by decide +kernel) (by decide +kernel)), (xg 130 (by decide +kernel) (by decide +kernel)), ⟨7, by decide, TX7, 9, rfl⟩⟩
theorem cd_X9_readName : Cond.code yX9_readName cX9_readName 4 (some .boolean) ∈ xG := (xg 899 (by decide +kernel) (by decide +kernel))
theorem pr_X9_readName : (∀ e ∈ pX9_readName, xrow cX9_readName 4 kdX9 flX9 0 false RX9 e) ∧ xnext pX9_readName = true := xrows (by decide +kernel)
set_option maxRecDepth 100000 in
theorem wx_X9_readName (X : xCtx p R S0 m ag c0 D cA A0 sA 4 cX9_readName RX9 (.code yX9_readName cX9_readName 4 (some .boolean) :: xG) 0 0) (hi : meth.name = yX9_readName.name) (hroom : 8 + 2 ≤ R.frames ∧ 60 * (8 + 2) ≤ R.locals) {rr : Int32 × xM} (hE : xEnd l D cA sA cX9_readName 4 (some .boolean) R 0 0 (some (.inl rr.1)) rr.2 p e S0 m ag below meth c0 A0 M0 ad0 Z) (fu : Nat) (s : Nat) (x1 : Option Nat) (x2 : Option Nat) (M : xM) (h : F_X9_readName fu s x1 x2 M = some rr) : xWx p l e R S0 m ag below meth c0 D cA A0 sA M0 ad0 4 Z 0 0 0 0 0 [(0, .inr (.inr (9, some s))), (1, .inr (.inr (10, x1))), (2, .inr (.inr (7, x2)))] [] M := by
  rw [← q_X9_readName fu s x1 x2 M] at h
  have hT : ∀ w ∈ xG, w ∈ (Cond.code yX9_readName cX9_readName 4 (some .boolean) :: xG) := fun w hw => List.mem_cons_of_mem _ hw
  refine xrun_sound (nst := 0) (isInit := false) (kd := kdX9) X (xcls_mono hT xclsG) (xpool_mono hT plX9) (fun z => by cases z) (fun idx v hf => xkoE_mono hT (koX9_ok _ (xfind_mem hf))) (xents (ca := _) ?_) (endZ hE).1 (endZ hE).2 (xcuts (cu := _) ?_) pr_X9_readName.1 pr_X9_readName.2 _ _ _ _ _ _ _ _ (xat_ok pr_X9_readName.1 pr_X9_readName.2).1 (xat_ok pr_X9_readName.1 pr_X9_readName.2).2.1 (xat_ok pr_X9_readName.1 pr_X9_readName.2).2.2 h
  · exact (List.forall_mem_cons.mpr ⟨(xent_met X (ci := 10) hT cd_X10_fail lk_X9_50 rfl (by decide) rfl (by decide +kernel) (fun z => absurd z (by decide)) (hw_X10_fail l D cA sA fu 0) (fun _ => ⟨by decide, fun _ => ⟨TX10, 10, rfl⟩⟩) (by constructor <;> omega) (by decide)), (List.forall_mem_cons.mpr ⟨(xent_met X (ci := 10) hT cd_X10_next lk_X9_54 rfl (by decide) rfl (by decide +kernel) (fun z => absurd z (by decide)) (hw_X10_next l D cA sA fu 0) (fun _ => ⟨by decide, fun _ => ⟨TX10, 10, rfl⟩⟩) (by constructor <;> omega) (by decide)), (List.forall_mem_cons.mpr ⟨(xent_met X (ci := 10) hT cd_X10_isName lk_X9_64 rfl (by decide) rfl (by decide +kernel) (fun z => absurd z (by decide)) (hw_X10_isName l D cA sA fu 0) (fun _ => ⟨by decide, fun _ => ⟨TX10, 10, rfl⟩⟩) (by constructor <;> omega) (by decide)), (List.forall_mem_cons.mpr ⟨(xent_met X (ci := 7) hT cd_X7_fileNamed lk_X9_72 rfl (by decide) rfl (by decide +kernel) (fun z => absurd z (by decide)) (hw_X7_fileNamed l D cA sA fu 0) (fun _ => ⟨by decide, fun _ => ⟨TX7, 9, rfl⟩⟩) (by constructor <;> omega) (by decide)), (fun _ h => nomatch h)⟩)⟩)⟩)⟩)
  · exact (fun _ h => nomatch h)

theorem ok_X9_readName (l : Launch) (D : va_G) (cA : Nat → ClassId) (sA : Nat → Nat) (fu : Nat) (s : Nat) (x1 : Option Nat) (x2 : Option Nat) (M : xM) {rr : Int32 × xM} (h : F_X9_readName fu s x1 x2 M = some rr) : xMet l D cA sA yX9_readName cX9_readName 4 (some .boolean) xG (8 + 1) 0 0 [.inr (.inr (9, some s)), .inr (.inr (10, x1)), .inr (.inr (7, x2))] M (some (.inl rr.1)) rr.2 :=
  xmet_of (by decide +kernel) (Nat.le_of_ble_eq_true rfl) (fun p e s1 m ag below meth c0 A0 ad0 Z X hn hE => wx_X9_readName X hn ⟨Nat.le_refl _, Nat.le_refl _⟩ hE fu s x1 x2 M h)
theorem hw_X9_readName (l : Launch) (D : va_G) (cA : Nat → ClassId) (sA : Nat → Nat) (fu : Nat) {ρ : Type} {r0 : ρ} (kd1 : Nat) : ∀ (as : List xV) (M : xM) (k : Option xV → xM → Option ρ), w_X9_readName fu as M k = some r0 → ∃ v M', xMet l D cA sA yX9_readName cX9_readName 4 (some .boolean) xG (8 + 1) 0 0 as M v M' ∧ k v M' = some r0 ∧ (kd1 ≠ 2 → ∃ a as', as = .inr (.inr (9, some a)) :: as') := by
  intro as M k h
  unfold w_X9_readName at h
  replace h := pR_some h
  obtain ⟨o, as1, rfl, h⟩ := h
  replace h := bd_some h
  obtain ⟨s, rfl, h⟩ := h
  replace h := pR_some h
  obtain ⟨x1, as1, rfl, h⟩ := h
  replace h := pR_some h
  obtain ⟨x2, as1, rfl, h⟩ := h
  replace h := xe_some h
  obtain ⟨rfl, h⟩ := h
  obtain ⟨p1, hp, h⟩ := Option.bind_eq_some_iff.mp h
  exact ⟨_, _, ok_X9_readName l D cA sA fu s x1 x2 M hp, h, fun _ => ⟨_, _, rfl⟩⟩
theorem lk_X9_78 : xLink xG RX9 78 0 yX10_takeNumber 2 := ⟨Or.inl (xg 906 (by decide +kernel) (by decide +kernel)), (xg 804 (by decide +kernel) (by decide +kernel)), (xg 805 (by decide +kernel) (by decide +kernel)), (xg 129 (by decide +kernel) (by decide +kernel)), ⟨10, by decide, TX10, 10, rfl⟩⟩
theorem cd_X9_readNumbers : Cond.code yX9_readNumbers cX9_readNumbers 4 (some .boolean) ∈ xG := (xg 905 (by decide +kernel) (by decide +kernel))
theorem pr_X9_readNumbers : (∀ e ∈ pX9_readNumbers, xrow cX9_readNumbers 4 kdX9 flX9 0 false RX9 e) ∧ xnext pX9_readNumbers = true := xrows (by decide +kernel)
set_option maxRecDepth 100000 in
theorem wx_X9_readNumbers (X : xCtx p R S0 m ag c0 D cA A0 sA 4 cX9_readNumbers RX9 (.code yX9_readNumbers cX9_readNumbers 4 (some .boolean) :: xG) 0 0) (hi : meth.name = yX9_readNumbers.name) (hroom : 9 + 2 ≤ R.frames ∧ 60 * (9 + 2) ≤ R.locals) {rr : Int32 × xM} (hE : xEnd l D cA sA cX9_readNumbers 4 (some .boolean) R 0 0 (some (.inl rr.1)) rr.2 p e S0 m ag below meth c0 A0 M0 ad0 Z) (fu : Nat) (s : Nat) (x1 : Option Nat) (M : xM) (h : F_X9_readNumbers fu s x1 M = some rr) : xWx p l e R S0 m ag below meth c0 D cA A0 sA M0 ad0 4 Z 0 0 0 0 0 [(0, .inr (.inr (9, some s))), (1, .inr (.inr (10, x1)))] [] M := by
  rw [← q_X9_readNumbers fu s x1 M] at h
  have hT : ∀ w ∈ xG, w ∈ (Cond.code yX9_readNumbers cX9_readNumbers 4 (some .boolean) :: xG) := fun w hw => List.mem_cons_of_mem _ hw
  refine xrun_sound (nst := 0) (isInit := false) (kd := kdX9) X (xcls_mono hT xclsG) (xpool_mono hT plX9) (fun z => by cases z) (fun idx v hf => xkoE_mono hT (koX9_ok _ (xfind_mem hf))) (xents (ca := _) ?_) (endZ hE).1 (endZ hE).2 (xcuts (cu := _) ?_) pr_X9_readNumbers.1 pr_X9_readNumbers.2 _ _ _ _ _ _ _ _ (xat_ok pr_X9_readNumbers.1 pr_X9_readNumbers.2).1 (xat_ok pr_X9_readNumbers.1 pr_X9_readNumbers.2).2.1 (xat_ok pr_X9_readNumbers.1 pr_X9_readNumbers.2).2.2 h
  · exact (List.forall_mem_cons.mpr ⟨(xent_met X (ci := 10) hT cd_X10_takeNumber lk_X9_78 rfl (by decide) rfl (by decide +kernel) (fun z => absurd z (by decide)) (hw_X10_takeNumber l D cA sA fu 0) (fun _ => ⟨by decide, fun _ => ⟨TX10, 10, rfl⟩⟩) (by constructor <;> omega) (by decide)), (fun _ h => nomatch h)⟩)
  · exact (fun _ h => nomatch h)

theorem ok_X9_readNumbers (l : Launch) (D : va_G) (cA : Nat → ClassId) (sA : Nat → Nat) (fu : Nat) (s : Nat) (x1 : Option Nat) (M : xM) {rr : Int32 × xM} (h : F_X9_readNumbers fu s x1 M = some rr) : xMet l D cA sA yX9_readNumbers cX9_readNumbers 4 (some .boolean) xG (9 + 1) 0 0 [.inr (.inr (9, some s)), .inr (.inr (10, x1))] M (some (.inl rr.1)) rr.2 :=
  xmet_of (by decide +kernel) (Nat.le_of_ble_eq_true rfl) (fun p e s1 m ag below meth c0 A0 ad0 Z X hn hE => wx_X9_readNumbers X hn ⟨Nat.le_refl _, Nat.le_refl _⟩ hE fu s x1 M h)
theorem hw_X9_readNumbers (l : Launch) (D : va_G) (cA : Nat → ClassId) (sA : Nat → Nat) (fu : Nat) {ρ : Type} {r0 : ρ} (kd1 : Nat) : ∀ (as : List xV) (M : xM) (k : Option xV → xM → Option ρ), w_X9_readNumbers fu as M k = some r0 → ∃ v M', xMet l D cA sA yX9_readNumbers cX9_readNumbers 4 (some .boolean) xG (9 + 1) 0 0 as M v M' ∧ k v M' = some r0 ∧ (kd1 ≠ 2 → ∃ a as', as = .inr (.inr (9, some a)) :: as') := by
  intro as M k h
  unfold w_X9_readNumbers at h
  replace h := pR_some h
  obtain ⟨o, as1, rfl, h⟩ := h
  replace h := bd_some h
  obtain ⟨s, rfl, h⟩ := h
  replace h := pR_some h
  obtain ⟨x1, as1, rfl, h⟩ := h
  replace h := xe_some h
  obtain ⟨rfl, h⟩ := h
  obtain ⟨p1, hp, h⟩ := Option.bind_eq_some_iff.mp h
  exact ⟨_, _, ok_X9_readNumbers l D cA sA fu s x1 M hp, h, fun _ => ⟨_, _, rfl⟩⟩
theorem lk_X9_60 : xLink xG RX9 60 0 yX9_readNumbers 1 := ⟨Or.inl (xg 902 (by decide +kernel) (by decide +kernel)), (xg 904 (by decide +kernel) (by decide +kernel)), (xg 17 (by decide +kernel) (by decide +kernel)), (xg 132 (by decide +kernel) (by decide +kernel)), ⟨9, by decide, TX9, 5, rfl⟩⟩
theorem lk_X9_57 : xLink xG RX9 57 0 yX9_readName 2 := ⟨Or.inl (xg 896 (by decide +kernel) (by decide +kernel)), (xg 898 (by decide +kernel) (by decide +kernel)), (xg 16 (by decide +kernel) (by decide +kernel)), (xg 132 (by decide +kernel) (by decide +kernel)), ⟨9, by decide, TX9, 5, rfl⟩⟩
theorem cd_X9_readLine : Cond.code yX9_readLine cX9_readLine 4 (some .boolean) ∈ xG := (xg 893 (by decide +kernel) (by decide +kernel))
theorem pr_X9_readLine : (∀ e ∈ pX9_readLine, xrow cX9_readLine 4 kdX9 flX9 0 false RX9 e) ∧ xnext pX9_readLine = true := xrows (by decide +kernel)
set_option maxRecDepth 100000 in
theorem wx_X9_readLine_107 (X : xCtx p R S0 m ag c0 D cA A0 sA 4 cX9_readLine RX9 (.code yX9_readLine cX9_readLine 4 (some .boolean) :: xG) 0 0) (hi : meth.name = yX9_readLine.name) (hroom : 10 + 2 ≤ R.frames ∧ 60 * (10 + 2) ≤ R.locals) {rr : Int32 × xM} (hE : xEnd l D cA sA cX9_readLine 4 (some .boolean) R 0 0 (some (.inl rr.1)) rr.2 p e S0 m ag below meth c0 A0 M0 ad0 Z) (fu : Nat) (s : Nat) (x1 : Option Nat) (x3 : Int32) (M : xM) (h : J_X9_readLine_107 fu s x1 x3 M = some rr) : xWx p l e R S0 m ag below meth c0 D cA A0 sA M0 ad0 4 Z 0 0 107 0 0 [(0, .inr (.inr (9, some s))), (1, .inr (.inr (10, x1))), (3, .inl x3)] [] M := by
  rw [← q_X9_readLine_107 fu s x1 x3 M] at h
  have hT : ∀ w ∈ xG, w ∈ (Cond.code yX9_readLine cX9_readLine 4 (some .boolean) :: xG) := fun w hw => List.mem_cons_of_mem _ hw
  refine xrun_sound (nst := 0) (isInit := false) (kd := kdX9) X (xcls_mono hT xclsG) (xpool_mono hT plX9) (fun z => by cases z) (fun idx v hf => xkoE_mono hT (koX9_ok _ (xfind_mem hf))) (xents (ca := _) ?_) (endZ hE).1 (endZ hE).2 (xcuts (cu := _) ?_) pr_X9_readLine.1 pr_X9_readLine.2 _ _ _ _ _ _ _ _ (xat_ok pr_X9_readLine.1 pr_X9_readLine.2).1 (xat_ok pr_X9_readLine.1 pr_X9_readLine.2).2.1 (xat_ok pr_X9_readLine.1 pr_X9_readLine.2).2.2 h
  · exact (List.forall_mem_cons.mpr ⟨(xent_met X (ci := 9) hT cd_X9_readNumbers lk_X9_60 rfl (by decide) rfl (by decide +kernel) (fun z => absurd z (by decide)) (hw_X9_readNumbers l D cA sA fu 0) (fun _ => ⟨by decide, fun _ => ⟨TX9, 5, rfl⟩⟩) (by constructor <;> omega) (by decide)), (fun _ h => nomatch h)⟩)
  · exact (fun _ h => nomatch h)

set_option maxRecDepth 100000 in
theorem wx_X9_readLine (X : xCtx p R S0 m ag c0 D cA A0 sA 4 cX9_readLine RX9 (.code yX9_readLine cX9_readLine 4 (some .boolean) :: xG) 0 0) (hi : meth.name = yX9_readLine.name) (hroom : 10 + 2 ≤ R.frames ∧ 60 * (10 + 2) ≤ R.locals) {rr : Int32 × xM} (hE : xEnd l D cA sA cX9_readLine 4 (some .boolean) R 0 0 (some (.inl rr.1)) rr.2 p e S0 m ag below meth c0 A0 M0 ad0 Z) (fu : Nat) (s : Nat) (x1 : Option Nat) (x2 : Option Nat) (M : xM) (h : F_X9_readLine fu s x1 x2 M = some rr) : xWx p l e R S0 m ag below meth c0 D cA A0 sA M0 ad0 4 Z 0 0 0 0 0 [(0, .inr (.inr (9, some s))), (1, .inr (.inr (10, x1))), (2, .inr (.inr (7, x2)))] [] M := by
  rw [← q_X9_readLine fu s x1 x2 M] at h
  have hT : ∀ w ∈ xG, w ∈ (Cond.code yX9_readLine cX9_readLine 4 (some .boolean) :: xG) := fun w hw => List.mem_cons_of_mem _ hw
  refine xrun_sound (nst := 0) (isInit := false) (kd := kdX9) X (xcls_mono hT xclsG) (xpool_mono hT plX9) (fun z => by cases z) (fun idx v hf => xkoE_mono hT (koX9_ok _ (xfind_mem hf))) (xents (ca := _) ?_) (endZ hE).1 (endZ hE).2 (xcuts (cu := _) ?_) pr_X9_readLine.1 pr_X9_readLine.2 _ _ _ _ _ _ _ _ (xat_ok pr_X9_readLine.1 pr_X9_readLine.2).1 (xat_ok pr_X9_readLine.1 pr_X9_readLine.2).2.1 (xat_ok pr_X9_readLine.1 pr_X9_readLine.2).2.2 h
  · exact (List.forall_mem_cons.mpr ⟨(xent_met X (ci := 10) hT cd_X10_fail lk_X9_50 rfl (by decide) rfl (by decide +kernel) (fun z => absurd z (by decide)) (hw_X10_fail l D cA sA fu 0) (fun _ => ⟨by decide, fun _ => ⟨TX10, 10, rfl⟩⟩) (by constructor <;> omega) (by decide)), (List.forall_mem_cons.mpr ⟨(xent_met X (ci := 10) hT cd_X10_next lk_X9_54 rfl (by decide) rfl (by decide +kernel) (fun z => absurd z (by decide)) (hw_X10_next l D cA sA fu 0) (fun _ => ⟨by decide, fun _ => ⟨TX10, 10, rfl⟩⟩) (by constructor <;> omega) (by decide)), (List.forall_mem_cons.mpr ⟨(xent_met X (ci := 9) hT cd_X9_readName lk_X9_57 rfl (by decide) rfl (by decide +kernel) (fun z => absurd z (by decide)) (hw_X9_readName l D cA sA fu 0) (fun _ => ⟨by decide, fun _ => ⟨TX9, 5, rfl⟩⟩) (by constructor <;> omega) (by decide)), (fun _ h => nomatch h)⟩)⟩)⟩)
  · refine (List.forall_mem_cons.mpr ⟨?_, (fun _ h => nomatch h)⟩)
    · intro bc bs ls st M h
      replace h := xz_some h
      obtain ⟨rfl, rfl, h⟩ := h
      replace h := lR_some h
      obtain ⟨o, e0, h⟩ := h
      replace h := bd_some h
      obtain ⟨s', rfl, h⟩ := h
      replace h := lR_some h
      obtain ⟨x1', e1, h⟩ := h
      replace h := lI_some h
      obtain ⟨x3', e3, h⟩ := h
      replace h := xe_some h
      obtain ⟨rfl, h⟩ := h
      exact xWx_ls (wx_X9_readLine_107 X hi hroom hE fu s' x1' x3' M h) (List.forall_mem_cons.mpr ⟨e0, (List.forall_mem_cons.mpr ⟨e1, (List.forall_mem_cons.mpr ⟨e3, (fun _ h => nomatch h)⟩)⟩)⟩)

theorem ok_X9_readLine (l : Launch) (D : va_G) (cA : Nat → ClassId) (sA : Nat → Nat) (fu : Nat) (s : Nat) (x1 : Option Nat) (x2 : Option Nat) (M : xM) {rr : Int32 × xM} (h : F_X9_readLine fu s x1 x2 M = some rr) : xMet l D cA sA yX9_readLine cX9_readLine 4 (some .boolean) xG (10 + 1) 0 0 [.inr (.inr (9, some s)), .inr (.inr (10, x1)), .inr (.inr (7, x2))] M (some (.inl rr.1)) rr.2 :=
  xmet_of (by decide +kernel) (Nat.le_of_ble_eq_true rfl) (fun p e s1 m ag below meth c0 A0 ad0 Z X hn hE => wx_X9_readLine X hn ⟨Nat.le_refl _, Nat.le_refl _⟩ hE fu s x1 x2 M h)
theorem hw_X9_readLine (l : Launch) (D : va_G) (cA : Nat → ClassId) (sA : Nat → Nat) (fu : Nat) {ρ : Type} {r0 : ρ} (kd1 : Nat) : ∀ (as : List xV) (M : xM) (k : Option xV → xM → Option ρ), w_X9_readLine fu as M k = some r0 → ∃ v M', xMet l D cA sA yX9_readLine cX9_readLine 4 (some .boolean) xG (10 + 1) 0 0 as M v M' ∧ k v M' = some r0 ∧ (kd1 ≠ 2 → ∃ a as', as = .inr (.inr (9, some a)) :: as') := by
  intro as M k h
  unfold w_X9_readLine at h
  replace h := pR_some h
  obtain ⟨o, as1, rfl, h⟩ := h
  replace h := bd_some h
  obtain ⟨s, rfl, h⟩ := h
  replace h := pR_some h
  obtain ⟨x1, as1, rfl, h⟩ := h
  replace h := pR_some h
  obtain ⟨x2, as1, rfl, h⟩ := h
  replace h := xe_some h
  obtain ⟨rfl, h⟩ := h
  obtain ⟨p1, hp, h⟩ := Option.bind_eq_some_iff.mp h
  exact ⟨_, _, ok_X9_readLine l D cA sA fu s x1 x2 M hp, h, fun _ => ⟨_, _, rfl⟩⟩
theorem lk_X9_39 : xLink xG RX9 39 0 yX9_readLine 2 := ⟨Or.inl (xg 890 (by decide +kernel) (by decide +kernel)), (xg 892 (by decide +kernel) (by decide +kernel)), (xg 15 (by decide +kernel) (by decide +kernel)), (xg 132 (by decide +kernel) (by decide +kernel)), ⟨9, by decide, TX9, 5, rfl⟩⟩
theorem lk_X9_43 : xLink xG RX9 43 0 yX10_takeSign 1 := ⟨Or.inl (xg 907 (by decide +kernel) (by decide +kernel)), (xg 847 (by decide +kernel) (by decide +kernel)), (xg 848 (by decide +kernel) (by decide +kernel)), (xg 129 (by decide +kernel) (by decide +kernel)), ⟨10, by decide, TX10, 10, rfl⟩⟩
theorem lk_X9_28 : xLink xG RX9 28 0 yX9_clear 0 := ⟨Or.inl (xg 888 (by decide +kernel) (by decide +kernel)), (xg 864 (by decide +kernel) (by decide +kernel)), (xg 865 (by decide +kernel) (by decide +kernel)), (xg 132 (by decide +kernel) (by decide +kernel)), ⟨9, by decide, TX9, 5, rfl⟩⟩
theorem lk_X9_31 : xLink xG RX9 31 0 yX10_begin 0 := ⟨Or.inl (xg 889 (by decide +kernel) (by decide +kernel)), (xg 648 (by decide +kernel) (by decide +kernel)), (xg 649 (by decide +kernel) (by decide +kernel)), (xg 129 (by decide +kernel) (by decide +kernel)), ⟨10, by decide, TX10, 10, rfl⟩⟩
theorem cd_X9_read : Cond.code yX9_read cX9_read 5 (some .boolean) ∈ xG := (xg 887 (by decide +kernel) (by decide +kernel))
theorem pr_X9_read : (∀ e ∈ pX9_read, xrow cX9_read 5 kdX9 flX9 0 false RX9 e) ∧ xnext pX9_read = true := xrows (by decide +kernel)
set_option maxRecDepth 100000 in
theorem wx_X9_read_13 (X : xCtx p R S0 m ag c0 D cA A0 sA 5 cX9_read RX9 (.code yX9_read cX9_read 5 (some .boolean) :: xG) 0 0) (hi : meth.name = yX9_read.name) (hroom : 11 + 2 ≤ R.frames ∧ 60 * (11 + 2) ≤ R.locals) {rr : Int32 × xM} (hE : xEnd l D cA sA cX9_read 5 (some .boolean) R 0 0 (some (.inl rr.1)) rr.2 p e S0 m ag below meth c0 A0 M0 ad0 Z) (fu : Nat) : ∀ (n : Nat) (s : Nat) (x1 : Option Nat) (x2 : Option Nat) (x3 : Int32) (x4 : Int32) (M : xM), L_X9_read_13 fu n s x1 x2 x3 x4 M = some rr → xWx p l e R S0 m ag below meth c0 D cA A0 sA M0 ad0 5 Z 0 0 13 0 0 [(0, .inr (.inr (9, some s))), (1, .inr (.inr (10, x1))), (2, .inr (.inr (7, x2))), (3, .inl x3), (4, .inl x4)] [] M := by
  intro n
  induction n with
  | zero => intro s x1 x2 x3 x4 M h; cases h
  | succ n ih =>
    intro s x1 x2 x3 x4 M h
    rw [← q_X9_read_13 fu n s x1 x2 x3 x4 M] at h
    have hT : ∀ w ∈ xG, w ∈ (Cond.code yX9_read cX9_read 5 (some .boolean) :: xG) := fun w hw => List.mem_cons_of_mem _ hw
    refine xrun_sound (nst := 0) (isInit := false) (kd := kdX9) X (xcls_mono hT xclsG) (xpool_mono hT plX9) (fun z => by cases z) (fun idx v hf => xkoE_mono hT (koX9_ok _ (xfind_mem hf))) (xents (ca := _) ?_) (endZ hE).1 (endZ hE).2 (xcuts (cu := _) ?_) pr_X9_read.1 pr_X9_read.2 _ _ _ _ _ _ _ _ (xat_ok pr_X9_read.1 pr_X9_read.2).1 (xat_ok pr_X9_read.1 pr_X9_read.2).2.1 (xat_ok pr_X9_read.1 pr_X9_read.2).2.2 h
    · exact (List.forall_mem_cons.mpr ⟨(xent_met X (ci := 9) hT cd_X9_readLine lk_X9_39 rfl (by decide) rfl (by decide +kernel) (fun z => absurd z (by decide)) (hw_X9_readLine l D cA sA fu 0) (fun _ => ⟨by decide, fun _ => ⟨TX9, 5, rfl⟩⟩) (by constructor <;> omega) (by decide)), (List.forall_mem_cons.mpr ⟨(xent_met X (ci := 10) hT cd_X10_takeSign lk_X9_43 rfl (by decide) rfl (by decide +kernel) (fun z => absurd z (by decide)) (hw_X10_takeSign l D cA sA fu 0) (fun _ => ⟨by decide, fun _ => ⟨TX10, 10, rfl⟩⟩) (by constructor <;> omega) (by decide)), (fun _ h => nomatch h)⟩)⟩)
    · refine (List.forall_mem_cons.mpr ⟨?_, (fun _ h => nomatch h)⟩)
      · intro bc bs ls st M h
        replace h := xz_some h
        obtain ⟨rfl, rfl, h⟩ := h
        replace h := lR_some h
        obtain ⟨o, e0, h⟩ := h
        replace h := bd_some h
        obtain ⟨s', rfl, h⟩ := h
        replace h := lR_some h
        obtain ⟨x1', e1, h⟩ := h
        replace h := lR_some h
        obtain ⟨x2', e2, h⟩ := h
        replace h := lI_some h
        obtain ⟨x3', e3, h⟩ := h
        replace h := lI_some h
        obtain ⟨x4', e4, h⟩ := h
        replace h := xe_some h
        obtain ⟨rfl, h⟩ := h
        exact xWx_ls (ih s' x1' x2' x3' x4' M h) (List.forall_mem_cons.mpr ⟨e0, (List.forall_mem_cons.mpr ⟨e1, (List.forall_mem_cons.mpr ⟨e2, (List.forall_mem_cons.mpr ⟨e3, (List.forall_mem_cons.mpr ⟨e4, (fun _ h => nomatch h)⟩)⟩)⟩)⟩)⟩)

set_option maxRecDepth 100000 in
theorem wx_X9_read (X : xCtx p R S0 m ag c0 D cA A0 sA 5 cX9_read RX9 (.code yX9_read cX9_read 5 (some .boolean) :: xG) 0 0) (hi : meth.name = yX9_read.name) (hroom : 11 + 2 ≤ R.frames ∧ 60 * (11 + 2) ≤ R.locals) {rr : Int32 × xM} (hE : xEnd l D cA sA cX9_read 5 (some .boolean) R 0 0 (some (.inl rr.1)) rr.2 p e S0 m ag below meth c0 A0 M0 ad0 Z) (fu : Nat) (s : Nat) (x1 : Option Nat) (x2 : Option Nat) (M : xM) (h : F_X9_read fu s x1 x2 M = some rr) : xWx p l e R S0 m ag below meth c0 D cA A0 sA M0 ad0 5 Z 0 0 0 0 0 [(0, .inr (.inr (9, some s))), (1, .inr (.inr (10, x1))), (2, .inr (.inr (7, x2)))] [] M := by
  rw [← q_X9_read fu s x1 x2 M] at h
  have hT : ∀ w ∈ xG, w ∈ (Cond.code yX9_read cX9_read 5 (some .boolean) :: xG) := fun w hw => List.mem_cons_of_mem _ hw
  refine xrun_sound (nst := 0) (isInit := false) (kd := kdX9) X (xcls_mono hT xclsG) (xpool_mono hT plX9) (fun z => by cases z) (fun idx v hf => xkoE_mono hT (koX9_ok _ (xfind_mem hf))) (xents (ca := _) ?_) (endZ hE).1 (endZ hE).2 (xcuts (cu := _) ?_) pr_X9_read.1 pr_X9_read.2 _ _ _ _ _ _ _ _ (xat_ok pr_X9_read.1 pr_X9_read.2).1 (xat_ok pr_X9_read.1 pr_X9_read.2).2.1 (xat_ok pr_X9_read.1 pr_X9_read.2).2.2 h
  · exact (List.forall_mem_cons.mpr ⟨(xent_met X (ci := 9) hT cd_X9_clear lk_X9_28 rfl (by decide) rfl (by decide +kernel) (fun z => absurd z (by decide)) (hw_X9_clear l D cA sA fu 0) (fun _ => ⟨by decide, fun _ => ⟨TX9, 5, rfl⟩⟩) (by constructor <;> omega) (by decide)), (List.forall_mem_cons.mpr ⟨(xent_met X (ci := 10) hT cd_X10_begin lk_X9_31 rfl (by decide) rfl (by decide +kernel) (fun z => absurd z (by decide)) (hw_X10_begin l D cA sA fu 0) (fun _ => ⟨by decide, fun _ => ⟨TX10, 10, rfl⟩⟩) (by constructor <;> omega) (by decide)), (fun _ h => nomatch h)⟩)⟩)
  · refine (List.forall_mem_cons.mpr ⟨?_, (fun _ h => nomatch h)⟩)
    · intro bc bs ls st M h
      replace h := xz_some h
      obtain ⟨rfl, rfl, h⟩ := h
      replace h := lR_some h
      obtain ⟨o, e0, h⟩ := h
      replace h := bd_some h
      obtain ⟨s', rfl, h⟩ := h
      replace h := lR_some h
      obtain ⟨x1', e1, h⟩ := h
      replace h := lR_some h
      obtain ⟨x2', e2, h⟩ := h
      replace h := lI_some h
      obtain ⟨x3', e3, h⟩ := h
      replace h := lI_some h
      obtain ⟨x4', e4, h⟩ := h
      replace h := xe_some h
      obtain ⟨rfl, h⟩ := h
      exact xWx_ls (wx_X9_read_13 X hi hroom hE fu fu s' x1' x2' x3' x4' M h) (List.forall_mem_cons.mpr ⟨e0, (List.forall_mem_cons.mpr ⟨e1, (List.forall_mem_cons.mpr ⟨e2, (List.forall_mem_cons.mpr ⟨e3, (List.forall_mem_cons.mpr ⟨e4, (fun _ h => nomatch h)⟩)⟩)⟩)⟩)⟩)

theorem ok_X9_read (l : Launch) (D : va_G) (cA : Nat → ClassId) (sA : Nat → Nat) (fu : Nat) (s : Nat) (x1 : Option Nat) (x2 : Option Nat) (M : xM) {rr : Int32 × xM} (h : F_X9_read fu s x1 x2 M = some rr) : xMet l D cA sA yX9_read cX9_read 5 (some .boolean) xG (11 + 1) 0 0 [.inr (.inr (9, some s)), .inr (.inr (10, x1)), .inr (.inr (7, x2))] M (some (.inl rr.1)) rr.2 :=
  xmet_of (by decide +kernel) (Nat.le_of_ble_eq_true rfl) (fun p e s1 m ag below meth c0 A0 ad0 Z X hn hE => wx_X9_read X hn ⟨Nat.le_refl _, Nat.le_refl _⟩ hE fu s x1 x2 M h)
theorem hw_X9_read (l : Launch) (D : va_G) (cA : Nat → ClassId) (sA : Nat → Nat) (fu : Nat) {ρ : Type} {r0 : ρ} (kd1 : Nat) : ∀ (as : List xV) (M : xM) (k : Option xV → xM → Option ρ), w_X9_read fu as M k = some r0 → ∃ v M', xMet l D cA sA yX9_read cX9_read 5 (some .boolean) xG (11 + 1) 0 0 as M v M' ∧ k v M' = some r0 ∧ (kd1 ≠ 2 → ∃ a as', as = .inr (.inr (9, some a)) :: as') := by
  intro as M k h
  unfold w_X9_read at h
  replace h := pR_some h
  obtain ⟨o, as1, rfl, h⟩ := h
  replace h := bd_some h
  obtain ⟨s, rfl, h⟩ := h
  replace h := pR_some h
  obtain ⟨x1, as1, rfl, h⟩ := h
  replace h := pR_some h
  obtain ⟨x2, as1, rfl, h⟩ := h
  replace h := xe_some h
  obtain ⟨rfl, h⟩ := h
  obtain ⟨p1, hp, h⟩ := Option.bind_eq_some_iff.mp h
  exact ⟨_, _, ok_X9_read l D cA sA fu s x1 x2 M hp, h, fun _ => ⟨_, _, rfl⟩⟩
theorem lk_X11_120 : xLink xG RX11 120 0 yX9_read 2 := ⟨Or.inl (xg 884 (by decide +kernel) (by decide +kernel)), (xg 885 (by decide +kernel) (by decide +kernel)), (xg 886 (by decide +kernel) (by decide +kernel)), (xg 132 (by decide +kernel) (by decide +kernel)), ⟨9, by decide, TX9, 5, rfl⟩⟩
theorem cd_X11_work : Cond.code yX11_work cX11_work 3 (some .int) ∈ xG := (xg 883 (by decide +kernel) (by decide +kernel))
theorem pr_X11_work : (∀ e ∈ pX11_work, xrow cX11_work 3 kdX11 flX11 0 false RX11 e) ∧ xnext pX11_work = true := xrows (by decide +kernel)
set_option maxRecDepth 100000 in
theorem wx_X11_work (X : xCtx p R S0 m ag c0 D cA A0 sA 3 cX11_work RX11 (.code yX11_work cX11_work 3 (some .int) :: xG) 0 0) (hi : meth.name = yX11_work.name) (hroom : 12 + 2 ≤ R.frames ∧ 60 * (12 + 2) ≤ R.locals) {rr : Int32 × xM} (hE : xEnd l D cA sA cX11_work 3 (some .int) R 0 0 (some (.inl rr.1)) rr.2 p e S0 m ag below meth c0 A0 M0 ad0 Z) (fu : Nat) (s : Nat) (M : xM) (h : F_X11_work fu s M = some rr) : xWx p l e R S0 m ag below meth c0 D cA A0 sA M0 ad0 3 Z 0 0 0 0 0 [(0, .inr (.inr (11, some s)))] [] M := by
  rw [← q_X11_work fu s M] at h
  have hT : ∀ w ∈ xG, w ∈ (Cond.code yX11_work cX11_work 3 (some .int) :: xG) := fun w hw => List.mem_cons_of_mem _ hw
  refine xrun_sound (nst := 0) (isInit := false) (kd := kdX11) X (xcls_mono hT xclsG) (xpool_mono hT plX11) (fun z => by cases z) (fun idx v hf => xkoE_mono hT (koX11_ok _ (xfind_mem hf))) (xents (ca := _) ?_) (endI hE).1 (endI hE).2 (xcuts (cu := _) ?_) pr_X11_work.1 pr_X11_work.2 _ _ _ _ _ _ _ _ (xat_ok pr_X11_work.1 pr_X11_work.2).1 (xat_ok pr_X11_work.1 pr_X11_work.2).2.1 (xat_ok pr_X11_work.1 pr_X11_work.2).2.2 h
  · exact (List.forall_mem_cons.mpr ⟨(xent_met X (ci := 10) hT cd_X10_taken lk_X11_105 rfl (by decide) rfl (by decide +kernel) (fun z => absurd z (by decide)) (hw_X10_taken l D cA sA fu 0) (fun _ => ⟨by decide, fun _ => ⟨TX10, 10, rfl⟩⟩) (by constructor <;> omega) (by decide)), (List.forall_mem_cons.mpr ⟨(xent_met X (ci := 5) hT cd_X5_forget lk_X11_117 rfl (by decide) rfl (by decide +kernel) (fun z => absurd z (by decide)) (hw_X5_forget l D cA sA fu 0) (fun _ => ⟨by decide, fun _ => ⟨TX5, 7, rfl⟩⟩) (by constructor <;> omega) (by decide)), (List.forall_mem_cons.mpr ⟨(xent_met X (ci := 9) hT cd_X9_read lk_X11_120 rfl (by decide) rfl (by decide +kernel) (fun z => absurd z (by decide)) (hw_X9_read l D cA sA fu 0) (fun _ => ⟨by decide, fun _ => ⟨TX9, 5, rfl⟩⟩) (by constructor <;> omega) (by decide)), (fun _ h => nomatch h)⟩)⟩)⟩)
  · exact (fun _ h => nomatch h)

theorem ok_X11_work (l : Launch) (D : va_G) (cA : Nat → ClassId) (sA : Nat → Nat) (fu : Nat) (s : Nat) (M : xM) {rr : Int32 × xM} (h : F_X11_work fu s M = some rr) : xMet l D cA sA yX11_work cX11_work 3 (some .int) xG (12 + 1) 0 0 [.inr (.inr (11, some s))] M (some (.inl rr.1)) rr.2 :=
  xmet_of (by decide +kernel) (Nat.le_of_ble_eq_true rfl) (fun p e s1 m ag below meth c0 A0 ad0 Z X hn hE => wx_X11_work X hn ⟨Nat.le_refl _, Nat.le_refl _⟩ hE fu s M h)
theorem hw_X11_work (l : Launch) (D : va_G) (cA : Nat → ClassId) (sA : Nat → Nat) (fu : Nat) {ρ : Type} {r0 : ρ} (kd1 : Nat) : ∀ (as : List xV) (M : xM) (k : Option xV → xM → Option ρ), w_X11_work fu as M k = some r0 → ∃ v M', xMet l D cA sA yX11_work cX11_work 3 (some .int) xG (12 + 1) 0 0 as M v M' ∧ k v M' = some r0 ∧ (kd1 ≠ 2 → ∃ a as', as = .inr (.inr (11, some a)) :: as') := by
  intro as M k h
  unfold w_X11_work at h
  replace h := pR_some h
  obtain ⟨o, as1, rfl, h⟩ := h
  replace h := bd_some h
  obtain ⟨s, rfl, h⟩ := h
  replace h := xe_some h
  obtain ⟨rfl, h⟩ := h
  obtain ⟨p1, hp, h⟩ := Option.bind_eq_some_iff.mp h
  exact ⟨_, _, ok_X11_work l D cA sA fu s M hp, h, fun _ => ⟨_, _, rfl⟩⟩
theorem lk_X11_181 : xLink xG RX11 181 0 yX2_writePage 3 := ⟨Or.inl (xg 981 (by decide +kernel) (by decide +kernel)), (xg 982 (by decide +kernel) (by decide +kernel)), (xg 983 (by decide +kernel) (by decide +kernel)), (xg 134 (by decide +kernel) (by decide +kernel)), ⟨2, by decide, TX2, 16, rfl⟩⟩
theorem cd_X11_write : Cond.code yX11_write cX11_write 4 (some .int) ∈ xG := (xg 980 (by decide +kernel) (by decide +kernel))
theorem pr_X11_write : (∀ e ∈ pX11_write, xrow cX11_write 4 kdX11 flX11 0 false RX11 e) ∧ xnext pX11_write = true := xrows (by decide +kernel)
set_option maxRecDepth 100000 in
theorem wx_X11_write (X : xCtx p R S0 m ag c0 D cA A0 sA 4 cX11_write RX11 (.code yX11_write cX11_write 4 (some .int) :: xG) 0 0) (hi : meth.name = yX11_write.name) (hroom : 10 + 2 ≤ R.frames ∧ 60 * (10 + 2) ≤ R.locals) {rr : Int32 × xM} (hE : xEnd l D cA sA cX11_write 4 (some .int) R 0 0 (some (.inl rr.1)) rr.2 p e S0 m ag below meth c0 A0 M0 ad0 Z) (fu : Nat) (s : Nat) (x1 : Int32) (x2 : Int32) (x3 : Int32) (M : xM) (h : F_X11_write fu s x1 x2 x3 M = some rr) : xWx p l e R S0 m ag below meth c0 D cA A0 sA M0 ad0 4 Z 0 0 0 0 0 [(0, .inr (.inr (11, some s))), (1, .inl x1), (2, .inl x2), (3, .inl x3)] [] M := by
  rw [← q_X11_write fu s x1 x2 x3 M] at h
  have hT : ∀ w ∈ xG, w ∈ (Cond.code yX11_write cX11_write 4 (some .int) :: xG) := fun w hw => List.mem_cons_of_mem _ hw
  refine xrun_sound (nst := 0) (isInit := false) (kd := kdX11) X (xcls_mono hT xclsG) (xpool_mono hT plX11) (fun z => by cases z) (fun idx v hf => xkoE_mono hT (koX11_ok _ (xfind_mem hf))) (xents (ca := _) ?_) (endI hE).1 (endI hE).2 (xcuts (cu := _) ?_) pr_X11_write.1 pr_X11_write.2 _ _ _ _ _ _ _ _ (xat_ok pr_X11_write.1 pr_X11_write.2).1 (xat_ok pr_X11_write.1 pr_X11_write.2).2.1 (xat_ok pr_X11_write.1 pr_X11_write.2).2.2 h
  · exact (List.forall_mem_cons.mpr ⟨(xent_met X (ci := 2) hT cd_X2_writePage lk_X11_181 rfl (by decide) rfl (by decide +kernel) (fun z => absurd z (by decide)) (hw_X2_writePage l D cA sA fu 0) (fun _ => ⟨by decide, fun _ => ⟨TX2, 16, rfl⟩⟩) (by constructor <;> omega) (by decide)), (fun _ h => nomatch h)⟩)
  · exact (fun _ h => nomatch h)

theorem ok_X11_write (l : Launch) (D : va_G) (cA : Nat → ClassId) (sA : Nat → Nat) (fu : Nat) (s : Nat) (x1 : Int32) (x2 : Int32) (x3 : Int32) (M : xM) {rr : Int32 × xM} (h : F_X11_write fu s x1 x2 x3 M = some rr) : xMet l D cA sA yX11_write cX11_write 4 (some .int) xG (10 + 1) 0 0 [.inr (.inr (11, some s)), .inl x1, .inl x2, .inl x3] M (some (.inl rr.1)) rr.2 :=
  xmet_of (by decide +kernel) (Nat.le_of_ble_eq_true rfl) (fun p e s1 m ag below meth c0 A0 ad0 Z X hn hE => wx_X11_write X hn ⟨Nat.le_refl _, Nat.le_refl _⟩ hE fu s x1 x2 x3 M h)
theorem hw_X11_write (l : Launch) (D : va_G) (cA : Nat → ClassId) (sA : Nat → Nat) (fu : Nat) {ρ : Type} {r0 : ρ} (kd1 : Nat) : ∀ (as : List xV) (M : xM) (k : Option xV → xM → Option ρ), w_X11_write fu as M k = some r0 → ∃ v M', xMet l D cA sA yX11_write cX11_write 4 (some .int) xG (10 + 1) 0 0 as M v M' ∧ k v M' = some r0 ∧ (kd1 ≠ 2 → ∃ a as', as = .inr (.inr (11, some a)) :: as') := by
  intro as M k h
  unfold w_X11_write at h
  replace h := pR_some h
  obtain ⟨o, as1, rfl, h⟩ := h
  replace h := bd_some h
  obtain ⟨s, rfl, h⟩ := h
  replace h := pI_some h
  obtain ⟨x1, as1, rfl, h⟩ := h
  replace h := pI_some h
  obtain ⟨x2, as1, rfl, h⟩ := h
  replace h := pI_some h
  obtain ⟨x3, as1, rfl, h⟩ := h
  replace h := xe_some h
  obtain ⟨rfl, h⟩ := h
  obtain ⟨p1, hp, h⟩ := Option.bind_eq_some_iff.mp h
  exact ⟨_, _, ok_X11_write l D cA sA fu s x1 x2 x3 M hp, h, fun _ => ⟨_, _, rfl⟩⟩
end XCON
