/-! ===== contracts, by program ===== -/
section XCON
variable {p : Program} {l : Launch} {e : Env} {R : Room} {S0 : State} {m : MethodId} {ag : Array Value} {below : List Frame} {meth : Method} {c0 : Code} {D : va_G} {cA : Nat → ClassId} {A0 : Nat → Prop} {sA : Nat → Nat} {M0 : xM} {ad0 : Nat → Nat → Nat} {Z : State → Prop}
theorem cd_X0_freshBlock : Cond.code yX0_freshBlock cX0_freshBlock 4 (some .int) ∈ xG := (xg 1030 (by decide +kernel) (by decide +kernel))
theorem pr_X0_freshBlock : (∀ e ∈ pX0_freshBlock, xrow cX0_freshBlock 4 kdX0 flX0 0 false RX0 e) ∧ xnext pX0_freshBlock = true := xrows (by decide +kernel)
set_option maxRecDepth 100000 in
theorem wx_X0_freshBlock_37 (X : xCtx p R S0 m ag c0 D cA A0 sA 4 cX0_freshBlock RX0 (.code yX0_freshBlock cX0_freshBlock 4 (some .int) :: xG) 0 0) (hi : meth.name = yX0_freshBlock.name) (hroom : 0 + 2 ≤ R.frames ∧ 60 * (0 + 2) ≤ R.locals) {rr : Int32 × xM} (hE : xEnd l D cA sA cX0_freshBlock 4 (some .int) R 0 0 (some (.inl rr.1)) rr.2 p e S0 m ag below meth c0 A0 M0 ad0 Z) (fu : Nat) (k4 : Nat → Int32 → Int32 → xM → Option (Int32 × xM)) (hk4 : ∀ (s : Nat) (x1 : Int32) (x2 : Int32) (M : xM), k4 s x1 x2 M = some rr → xWx p l e R S0 m ag below meth c0 D cA A0 sA M0 ad0 4 Z 0 0 4 0 0 [(0, .inr (.inr (0, some s))), (1, .inl x1), (2, .inl x2)] [] M) (s : Nat) (x1 : Int32) (x2 : Int32) (y0 : Int32) (M : xM) (h : J_X0_freshBlock_37 fu k4 s x1 x2 y0 M = some rr) : xWx p l e R S0 m ag below meth c0 D cA A0 sA M0 ad0 4 Z 0 0 37 0 0 [(0, .inr (.inr (0, some s))), (1, .inl x1), (2, .inl x2)] [.inl y0] M := by
  rw [← q_X0_freshBlock_37 fu k4 s x1 x2 y0 M] at h
  have hT : ∀ w ∈ xG, w ∈ (Cond.code yX0_freshBlock cX0_freshBlock 4 (some .int) :: xG) := fun w hw => List.mem_cons_of_mem _ hw
  refine xrun_sound (nst := 0) (isInit := false) (kd := kdX0) X (xcls_mono hT xclsG) (xpool_mono hT plX0) (fun z => by cases z) (fun idx v hf => xkoE_mono hT (koX0_ok _ (xfind_mem hf))) (xents (ca := _) ?_) (endI hE).1 (endI hE).2 (xcuts (cu := _) ?_) pr_X0_freshBlock.1 pr_X0_freshBlock.2 _ _ _ _ _ _ _ _ (xat_ok pr_X0_freshBlock.1 pr_X0_freshBlock.2).1 (xat_ok pr_X0_freshBlock.1 pr_X0_freshBlock.2).2.1 (xat_ok pr_X0_freshBlock.1 pr_X0_freshBlock.2).2.2 h
  · exact (fun _ h => nomatch h)
  · refine (List.forall_mem_cons.mpr ⟨?_, (fun _ h => nomatch h)⟩)
    · intro bc bs ls st M h
      replace h := xz_some h
      obtain ⟨rfl, rfl, h⟩ := h
      replace h := lR_some h
      obtain ⟨o, e0, h⟩ := h
      replace h := bd_some h
      obtain ⟨s', rfl, h⟩ := h
      replace h := lI_some h
      obtain ⟨x1', e1, h⟩ := h
      replace h := lI_some h
      obtain ⟨x2', e2, h⟩ := h
      replace h := xe_some h
      obtain ⟨rfl, h⟩ := h
      exact xWx_ls (hk4 s' x1' x2' M h) (List.forall_mem_cons.mpr ⟨e0, (List.forall_mem_cons.mpr ⟨e1, (List.forall_mem_cons.mpr ⟨e2, (fun _ h => nomatch h)⟩)⟩)⟩)

set_option maxRecDepth 100000 in
theorem wx_X0_freshBlock_4 (X : xCtx p R S0 m ag c0 D cA A0 sA 4 cX0_freshBlock RX0 (.code yX0_freshBlock cX0_freshBlock 4 (some .int) :: xG) 0 0) (hi : meth.name = yX0_freshBlock.name) (hroom : 0 + 2 ≤ R.frames ∧ 60 * (0 + 2) ≤ R.locals) {rr : Int32 × xM} (hE : xEnd l D cA sA cX0_freshBlock 4 (some .int) R 0 0 (some (.inl rr.1)) rr.2 p e S0 m ag below meth c0 A0 M0 ad0 Z) (fu : Nat) : ∀ (n : Nat) (s : Nat) (x1 : Int32) (x2 : Int32) (M : xM), L_X0_freshBlock_4 fu n s x1 x2 M = some rr → xWx p l e R S0 m ag below meth c0 D cA A0 sA M0 ad0 4 Z 0 0 4 0 0 [(0, .inr (.inr (0, some s))), (1, .inl x1), (2, .inl x2)] [] M := by
  intro n
  induction n with
  | zero => intro s x1 x2 M h; cases h
  | succ n ih =>
    intro s x1 x2 M h
    rw [← q_X0_freshBlock_4 fu n s x1 x2 M] at h
    have hT : ∀ w ∈ xG, w ∈ (Cond.code yX0_freshBlock cX0_freshBlock 4 (some .int) :: xG) := fun w hw => List.mem_cons_of_mem _ hw
    refine xrun_sound (nst := 0) (isInit := false) (kd := kdX0) X (xcls_mono hT xclsG) (xpool_mono hT plX0) (fun z => by cases z) (fun idx v hf => xkoE_mono hT (koX0_ok _ (xfind_mem hf))) (xents (ca := _) ?_) (endI hE).1 (endI hE).2 (xcuts (cu := _) ?_) pr_X0_freshBlock.1 pr_X0_freshBlock.2 _ _ _ _ _ _ _ _ (xat_ok pr_X0_freshBlock.1 pr_X0_freshBlock.2).1 (xat_ok pr_X0_freshBlock.1 pr_X0_freshBlock.2).2.1 (xat_ok pr_X0_freshBlock.1 pr_X0_freshBlock.2).2.2 h
    · exact (fun _ h => nomatch h)
    · refine (List.forall_mem_cons.mpr ⟨?_, (fun _ h => nomatch h)⟩)
      · intro bc bs ls st M h
        replace h := xz_some h
        obtain ⟨rfl, rfl, h⟩ := h
        replace h := lR_some h
        obtain ⟨o, e0, h⟩ := h
        replace h := bd_some h
        obtain ⟨s', rfl, h⟩ := h
        replace h := lI_some h
        obtain ⟨x1', e1, h⟩ := h
        replace h := lI_some h
        obtain ⟨x2', e2, h⟩ := h
        replace h := pI_some h
        obtain ⟨y0', st, rfl, h⟩ := h
        replace h := xe_some h
        obtain ⟨rfl, h⟩ := h
        exact xWx_ls (wx_X0_freshBlock_37 X hi hroom hE fu _ ih s' x1' x2' y0' M h) (List.forall_mem_cons.mpr ⟨e0, (List.forall_mem_cons.mpr ⟨e1, (List.forall_mem_cons.mpr ⟨e2, (fun _ h => nomatch h)⟩)⟩)⟩)

set_option maxRecDepth 100000 in
theorem wx_X0_freshBlock (X : xCtx p R S0 m ag c0 D cA A0 sA 4 cX0_freshBlock RX0 (.code yX0_freshBlock cX0_freshBlock 4 (some .int) :: xG) 0 0) (hi : meth.name = yX0_freshBlock.name) (hroom : 0 + 2 ≤ R.frames ∧ 60 * (0 + 2) ≤ R.locals) {rr : Int32 × xM} (hE : xEnd l D cA sA cX0_freshBlock 4 (some .int) R 0 0 (some (.inl rr.1)) rr.2 p e S0 m ag below meth c0 A0 M0 ad0 Z) (fu : Nat) (s : Nat) (M : xM) (h : F_X0_freshBlock fu s M = some rr) : xWx p l e R S0 m ag below meth c0 D cA A0 sA M0 ad0 4 Z 0 0 0 0 0 [(0, .inr (.inr (0, some s)))] [] M := by
  rw [← q_X0_freshBlock fu s M] at h
  have hT : ∀ w ∈ xG, w ∈ (Cond.code yX0_freshBlock cX0_freshBlock 4 (some .int) :: xG) := fun w hw => List.mem_cons_of_mem _ hw
  refine xrun_sound (nst := 0) (isInit := false) (kd := kdX0) X (xcls_mono hT xclsG) (xpool_mono hT plX0) (fun z => by cases z) (fun idx v hf => xkoE_mono hT (koX0_ok _ (xfind_mem hf))) (xents (ca := _) ?_) (endI hE).1 (endI hE).2 (xcuts (cu := _) ?_) pr_X0_freshBlock.1 pr_X0_freshBlock.2 _ _ _ _ _ _ _ _ (xat_ok pr_X0_freshBlock.1 pr_X0_freshBlock.2).1 (xat_ok pr_X0_freshBlock.1 pr_X0_freshBlock.2).2.1 (xat_ok pr_X0_freshBlock.1 pr_X0_freshBlock.2).2.2 h
  · exact (fun _ h => nomatch h)
  · refine (List.forall_mem_cons.mpr ⟨?_, (fun _ h => nomatch h)⟩)
    · intro bc bs ls st M h
      replace h := xz_some h
      obtain ⟨rfl, rfl, h⟩ := h
      replace h := lR_some h
      obtain ⟨o, e0, h⟩ := h
      replace h := bd_some h
      obtain ⟨s', rfl, h⟩ := h
      replace h := lI_some h
      obtain ⟨x1', e1, h⟩ := h
      replace h := lI_some h
      obtain ⟨x2', e2, h⟩ := h
      replace h := xe_some h
      obtain ⟨rfl, h⟩ := h
      exact xWx_ls (wx_X0_freshBlock_4 X hi hroom hE fu fu s' x1' x2' M h) (List.forall_mem_cons.mpr ⟨e0, (List.forall_mem_cons.mpr ⟨e1, (List.forall_mem_cons.mpr ⟨e2, (fun _ h => nomatch h)⟩)⟩)⟩)

theorem ok_X0_freshBlock (l : Launch) (D : va_G) (cA : Nat → ClassId) (sA : Nat → Nat) (fu : Nat) (s : Nat) (M : xM) {rr : Int32 × xM} (h : F_X0_freshBlock fu s M = some rr) : xMet l D cA sA yX0_freshBlock cX0_freshBlock 4 (some .int) xG 0 + 1 0 0 [.inr (.inr (0, some s))] M (some (.inl rr.1)) rr.2 :=
  xmet_of (by decide +kernel) (Nat.le_of_ble_eq_true rfl) (fun p e s1 m ag below meth c0 A0 ad0 Z X hn hE => wx_X0_freshBlock X hn ⟨Nat.le_refl _, Nat.le_refl _⟩ hE fu s M h)
theorem hw_X0_freshBlock (l : Launch) (D : va_G) (cA : Nat → ClassId) (sA : Nat → Nat) (fu : Nat) {ρ : Type} {r0 : ρ} (kd1 : Nat) : ∀ (as : List xV) (M : xM) (k : Option xV → xM → Option ρ), w_X0_freshBlock fu as M k = some r0 → ∃ v M', xMet l D cA sA yX0_freshBlock cX0_freshBlock 4 (some .int) xG (0 + 1) 0 0 as M v M' ∧ k v M' = some r0 ∧ (kd1 ≠ 2 → ∃ a as', as = .inr (.inr (0, some a)) :: as') := by
  intro as M k h
  unfold w_X0_freshBlock at h
  replace h := pR_some h
  obtain ⟨o, as1, rfl, h⟩ := h
  replace h := bd_some h
  obtain ⟨s, rfl, h⟩ := h
  replace h := xe_some h
  obtain ⟨rfl, h⟩ := h
  obtain ⟨p1, hp, h⟩ := Option.bind_eq_some_iff.mp h
  exact ⟨_, _, ok_X0_freshBlock l D cA sA fu s M hp, h, fun _ => ⟨_, _, rfl⟩⟩
theorem cd_X0_firstErased : Cond.code yX0_firstErased cX0_firstErased 3 (some .int) ∈ xG := (xg 1034 (by decide +kernel) (by decide +kernel))
theorem pr_X0_firstErased : (∀ e ∈ pX0_firstErased, xrow cX0_firstErased 3 kdX0 flX0 0 false RX0 e) ∧ xnext pX0_firstErased = true := xrows (by decide +kernel)
set_option maxRecDepth 100000 in
theorem wx_X0_firstErased_7 (X : xCtx p R S0 m ag c0 D cA A0 sA 3 cX0_firstErased RX0 (.code yX0_firstErased cX0_firstErased 3 (some .int) :: xG) 0 0) (hi : meth.name = yX0_firstErased.name) (hroom : 0 + 2 ≤ R.frames ∧ 60 * (0 + 2) ≤ R.locals) {rr : Int32 × xM} (hE : xEnd l D cA sA cX0_firstErased 3 (some .int) R 0 0 (some (.inl rr.1)) rr.2 p e S0 m ag below meth c0 A0 M0 ad0 Z) (fu : Nat) : ∀ (n : Nat) (s : Nat) (x1 : Int32) (x2 : Int32) (M : xM), L_X0_firstErased_7 fu n s x1 x2 M = some rr → xWx p l e R S0 m ag below meth c0 D cA A0 sA M0 ad0 3 Z 0 0 7 0 0 [(0, .inr (.inr (0, some s))), (1, .inl x1), (2, .inl x2)] [] M := by
  intro n
  induction n with
  | zero => intro s x1 x2 M h; cases h
  | succ n ih =>
    intro s x1 x2 M h
    rw [← q_X0_firstErased_7 fu n s x1 x2 M] at h
    have hT : ∀ w ∈ xG, w ∈ (Cond.code yX0_firstErased cX0_firstErased 3 (some .int) :: xG) := fun w hw => List.mem_cons_of_mem _ hw
    refine xrun_sound (nst := 0) (isInit := false) (kd := kdX0) X (xcls_mono hT xclsG) (xpool_mono hT plX0) (fun z => by cases z) (fun idx v hf => xkoE_mono hT (koX0_ok _ (xfind_mem hf))) (xents (ca := _) ?_) (endI hE).1 (endI hE).2 (xcuts (cu := _) ?_) pr_X0_firstErased.1 pr_X0_firstErased.2 _ _ _ _ _ _ _ _ (xat_ok pr_X0_firstErased.1 pr_X0_firstErased.2).1 (xat_ok pr_X0_firstErased.1 pr_X0_firstErased.2).2.1 (xat_ok pr_X0_firstErased.1 pr_X0_firstErased.2).2.2 h
    · exact (fun _ h => nomatch h)
    · refine (List.forall_mem_cons.mpr ⟨?_, (fun _ h => nomatch h)⟩)
      · intro bc bs ls st M h
        replace h := xz_some h
        obtain ⟨rfl, rfl, h⟩ := h
        replace h := lR_some h
        obtain ⟨o, e0, h⟩ := h
        replace h := bd_some h
        obtain ⟨s', rfl, h⟩ := h
        replace h := lI_some h
        obtain ⟨x1', e1, h⟩ := h
        replace h := lI_some h
        obtain ⟨x2', e2, h⟩ := h
        replace h := xe_some h
        obtain ⟨rfl, h⟩ := h
        exact xWx_ls (ih s' x1' x2' M h) (List.forall_mem_cons.mpr ⟨e0, (List.forall_mem_cons.mpr ⟨e1, (List.forall_mem_cons.mpr ⟨e2, (fun _ h => nomatch h)⟩)⟩)⟩)

set_option maxRecDepth 100000 in
theorem wx_X0_firstErased (X : xCtx p R S0 m ag c0 D cA A0 sA 3 cX0_firstErased RX0 (.code yX0_firstErased cX0_firstErased 3 (some .int) :: xG) 0 0) (hi : meth.name = yX0_firstErased.name) (hroom : 0 + 2 ≤ R.frames ∧ 60 * (0 + 2) ≤ R.locals) {rr : Int32 × xM} (hE : xEnd l D cA sA cX0_firstErased 3 (some .int) R 0 0 (some (.inl rr.1)) rr.2 p e S0 m ag below meth c0 A0 M0 ad0 Z) (fu : Nat) (s : Nat) (x1 : Int32) (M : xM) (h : F_X0_firstErased fu s x1 M = some rr) : xWx p l e R S0 m ag below meth c0 D cA A0 sA M0 ad0 3 Z 0 0 0 0 0 [(0, .inr (.inr (0, some s))), (1, .inl x1)] [] M := by
  rw [← q_X0_firstErased fu s x1 M] at h
  have hT : ∀ w ∈ xG, w ∈ (Cond.code yX0_firstErased cX0_firstErased 3 (some .int) :: xG) := fun w hw => List.mem_cons_of_mem _ hw
  refine xrun_sound (nst := 0) (isInit := false) (kd := kdX0) X (xcls_mono hT xclsG) (xpool_mono hT plX0) (fun z => by cases z) (fun idx v hf => xkoE_mono hT (koX0_ok _ (xfind_mem hf))) (xents (ca := _) ?_) (endI hE).1 (endI hE).2 (xcuts (cu := _) ?_) pr_X0_firstErased.1 pr_X0_firstErased.2 _ _ _ _ _ _ _ _ (xat_ok pr_X0_firstErased.1 pr_X0_firstErased.2).1 (xat_ok pr_X0_firstErased.1 pr_X0_firstErased.2).2.1 (xat_ok pr_X0_firstErased.1 pr_X0_firstErased.2).2.2 h
  · exact (fun _ h => nomatch h)
  · refine (List.forall_mem_cons.mpr ⟨?_, (fun _ h => nomatch h)⟩)
    · intro bc bs ls st M h
      replace h := xz_some h
      obtain ⟨rfl, rfl, h⟩ := h
      replace h := lR_some h
      obtain ⟨o, e0, h⟩ := h
      replace h := bd_some h
      obtain ⟨s', rfl, h⟩ := h
      replace h := lI_some h
      obtain ⟨x1', e1, h⟩ := h
      replace h := lI_some h
      obtain ⟨x2', e2, h⟩ := h
      replace h := xe_some h
      obtain ⟨rfl, h⟩ := h
      exact xWx_ls (wx_X0_firstErased_7 X hi hroom hE fu fu s' x1' x2' M h) (List.forall_mem_cons.mpr ⟨e0, (List.forall_mem_cons.mpr ⟨e1, (List.forall_mem_cons.mpr ⟨e2, (fun _ h => nomatch h)⟩)⟩)⟩)

theorem ok_X0_firstErased (l : Launch) (D : va_G) (cA : Nat → ClassId) (sA : Nat → Nat) (fu : Nat) (s : Nat) (x1 : Int32) (M : xM) {rr : Int32 × xM} (h : F_X0_firstErased fu s x1 M = some rr) : xMet l D cA sA yX0_firstErased cX0_firstErased 3 (some .int) xG 0 + 1 0 0 [.inr (.inr (0, some s)), .inl x1] M (some (.inl rr.1)) rr.2 :=
  xmet_of (by decide +kernel) (Nat.le_of_ble_eq_true rfl) (fun p e s1 m ag below meth c0 A0 ad0 Z X hn hE => wx_X0_firstErased X hn ⟨Nat.le_refl _, Nat.le_refl _⟩ hE fu s x1 M h)
theorem hw_X0_firstErased (l : Launch) (D : va_G) (cA : Nat → ClassId) (sA : Nat → Nat) (fu : Nat) {ρ : Type} {r0 : ρ} (kd1 : Nat) : ∀ (as : List xV) (M : xM) (k : Option xV → xM → Option ρ), w_X0_firstErased fu as M k = some r0 → ∃ v M', xMet l D cA sA yX0_firstErased cX0_firstErased 3 (some .int) xG (0 + 1) 0 0 as M v M' ∧ k v M' = some r0 ∧ (kd1 ≠ 2 → ∃ a as', as = .inr (.inr (0, some a)) :: as') := by
  intro as M k h
  unfold w_X0_firstErased at h
  replace h := pR_some h
  obtain ⟨o, as1, rfl, h⟩ := h
  replace h := bd_some h
  obtain ⟨s, rfl, h⟩ := h
  replace h := pI_some h
  obtain ⟨x1, as1, rfl, h⟩ := h
  replace h := xe_some h
  obtain ⟨rfl, h⟩ := h
  obtain ⟨p1, hp, h⟩ := Option.bind_eq_some_iff.mp h
  exact ⟨_, _, ok_X0_firstErased l D cA sA fu s x1 M hp, h, fun _ => ⟨_, _, rfl⟩⟩
theorem lk_X0_90 : xLink xG RX0 90 0 yX0_firstErased 1 := ⟨Or.inl (xg 1031 (by decide +kernel) (by decide +kernel)), (xg 1033 (by decide +kernel) (by decide +kernel)), (xg 23 (by decide +kernel) (by decide +kernel)), (xg 135 (by decide +kernel) (by decide +kernel)), ⟨0, by decide, TX0, 16, rfl⟩⟩
theorem lk_X0_86 : xLink xG RX0 86 0 yX0_freshBlock 0 := ⟨Or.inl (xg 1027 (by decide +kernel) (by decide +kernel)), (xg 1029 (by decide +kernel) (by decide +kernel)), (xg 22 (by decide +kernel) (by decide +kernel)), (xg 135 (by decide +kernel) (by decide +kernel)), ⟨0, by decide, TX0, 16, rfl⟩⟩
theorem cd_X0_takeSlot : Cond.code yX0_takeSlot cX0_takeSlot 2 (some .int) ∈ xG := (xg 1026 (by decide +kernel) (by decide +kernel))
theorem pr_X0_takeSlot : (∀ e ∈ pX0_takeSlot, xrow cX0_takeSlot 2 kdX0 flX0 0 false RX0 e) ∧ xnext pX0_takeSlot = true := xrows (by decide +kernel)
set_option maxRecDepth 100000 in
theorem wx_X0_takeSlot_35 (X : xCtx p R S0 m ag c0 D cA A0 sA 2 cX0_takeSlot RX0 (.code yX0_takeSlot cX0_takeSlot 2 (some .int) :: xG) 0 0) (hi : meth.name = yX0_takeSlot.name) (hroom : 1 + 2 ≤ R.frames ∧ 60 * (1 + 2) ≤ R.locals) {rr : Int32 × xM} (hE : xEnd l D cA sA cX0_takeSlot 2 (some .int) R 0 0 (some (.inl rr.1)) rr.2 p e S0 m ag below meth c0 A0 M0 ad0 Z) (fu : Nat) (s : Nat) (M : xM) (h : J_X0_takeSlot_35 fu s M = some rr) : xWx p l e R S0 m ag below meth c0 D cA A0 sA M0 ad0 2 Z 0 0 35 0 0 [(0, .inr (.inr (0, some s)))] [] M := by
  rw [← q_X0_takeSlot_35 fu s M] at h
  have hT : ∀ w ∈ xG, w ∈ (Cond.code yX0_takeSlot cX0_takeSlot 2 (some .int) :: xG) := fun w hw => List.mem_cons_of_mem _ hw
  refine xrun_sound (nst := 0) (isInit := false) (kd := kdX0) X (xcls_mono hT xclsG) (xpool_mono hT plX0) (fun z => by cases z) (fun idx v hf => xkoE_mono hT (koX0_ok _ (xfind_mem hf))) (xents (ca := _) ?_) (endI hE).1 (endI hE).2 (xcuts (cu := _) ?_) pr_X0_takeSlot.1 pr_X0_takeSlot.2 _ _ _ _ _ _ _ _ (xat_ok pr_X0_takeSlot.1 pr_X0_takeSlot.2).1 (xat_ok pr_X0_takeSlot.1 pr_X0_takeSlot.2).2.1 (xat_ok pr_X0_takeSlot.1 pr_X0_takeSlot.2).2.2 h
  · exact (List.forall_mem_cons.mpr ⟨(xent_met X (ci := 0) hT cd_X0_firstErased lk_X0_90 rfl (by decide) rfl (by decide +kernel) (fun z => absurd z (by decide)) (hw_X0_firstErased l D cA sA fu 0) (fun _ => ⟨by decide, fun _ => ⟨TX0, 16, rfl⟩⟩) (by constructor <;> omega) (by decide)), (fun _ h => nomatch h)⟩)
  · exact (fun _ h => nomatch h)

set_option maxRecDepth 100000 in
theorem wx_X0_takeSlot_19 (X : xCtx p R S0 m ag c0 D cA A0 sA 2 cX0_takeSlot RX0 (.code yX0_takeSlot cX0_takeSlot 2 (some .int) :: xG) 0 0) (hi : meth.name = yX0_takeSlot.name) (hroom : 1 + 2 ≤ R.frames ∧ 60 * (1 + 2) ≤ R.locals) {rr : Int32 × xM} (hE : xEnd l D cA sA cX0_takeSlot 2 (some .int) R 0 0 (some (.inl rr.1)) rr.2 p e S0 m ag below meth c0 A0 M0 ad0 Z) (fu : Nat) (s : Nat) (M : xM) (h : J_X0_takeSlot_19 fu s M = some rr) : xWx p l e R S0 m ag below meth c0 D cA A0 sA M0 ad0 2 Z 0 0 19 0 0 [(0, .inr (.inr (0, some s)))] [] M := by
  rw [← q_X0_takeSlot_19 fu s M] at h
  have hT : ∀ w ∈ xG, w ∈ (Cond.code yX0_takeSlot cX0_takeSlot 2 (some .int) :: xG) := fun w hw => List.mem_cons_of_mem _ hw
  refine xrun_sound (nst := 0) (isInit := false) (kd := kdX0) X (xcls_mono hT xclsG) (xpool_mono hT plX0) (fun z => by cases z) (fun idx v hf => xkoE_mono hT (koX0_ok _ (xfind_mem hf))) (xents (ca := _) ?_) (endI hE).1 (endI hE).2 (xcuts (cu := _) ?_) pr_X0_takeSlot.1 pr_X0_takeSlot.2 _ _ _ _ _ _ _ _ (xat_ok pr_X0_takeSlot.1 pr_X0_takeSlot.2).1 (xat_ok pr_X0_takeSlot.1 pr_X0_takeSlot.2).2.1 (xat_ok pr_X0_takeSlot.1 pr_X0_takeSlot.2).2.2 h
  · exact (List.forall_mem_cons.mpr ⟨(xent_met X (ci := 0) hT cd_X0_freshBlock lk_X0_86 rfl (by decide) rfl (by decide +kernel) (fun z => absurd z (by decide)) (hw_X0_freshBlock l D cA sA fu 0) (fun _ => ⟨by decide, fun _ => ⟨TX0, 16, rfl⟩⟩) (by constructor <;> omega) (by decide)), (fun _ h => nomatch h)⟩)
  · refine (List.forall_mem_cons.mpr ⟨?_, (fun _ h => nomatch h)⟩)
    · intro bc bs ls st M h
      replace h := xz_some h
      obtain ⟨rfl, rfl, h⟩ := h
      replace h := lR_some h
      obtain ⟨o, e0, h⟩ := h
      replace h := bd_some h
      obtain ⟨s', rfl, h⟩ := h
      replace h := xe_some h
      obtain ⟨rfl, h⟩ := h
      exact xWx_ls (wx_X0_takeSlot_35 X hi hroom hE fu s' M h) (List.forall_mem_cons.mpr ⟨e0, (fun _ h => nomatch h)⟩)

set_option maxRecDepth 100000 in
theorem wx_X0_takeSlot (X : xCtx p R S0 m ag c0 D cA A0 sA 2 cX0_takeSlot RX0 (.code yX0_takeSlot cX0_takeSlot 2 (some .int) :: xG) 0 0) (hi : meth.name = yX0_takeSlot.name) (hroom : 1 + 2 ≤ R.frames ∧ 60 * (1 + 2) ≤ R.locals) {rr : Int32 × xM} (hE : xEnd l D cA sA cX0_takeSlot 2 (some .int) R 0 0 (some (.inl rr.1)) rr.2 p e S0 m ag below meth c0 A0 M0 ad0 Z) (fu : Nat) (s : Nat) (M : xM) (h : F_X0_takeSlot fu s M = some rr) : xWx p l e R S0 m ag below meth c0 D cA A0 sA M0 ad0 2 Z 0 0 0 0 0 [(0, .inr (.inr (0, some s)))] [] M := by
  rw [← q_X0_takeSlot fu s M] at h
  have hT : ∀ w ∈ xG, w ∈ (Cond.code yX0_takeSlot cX0_takeSlot 2 (some .int) :: xG) := fun w hw => List.mem_cons_of_mem _ hw
  refine xrun_sound (nst := 0) (isInit := false) (kd := kdX0) X (xcls_mono hT xclsG) (xpool_mono hT plX0) (fun z => by cases z) (fun idx v hf => xkoE_mono hT (koX0_ok _ (xfind_mem hf))) (xents (ca := _) ?_) (endI hE).1 (endI hE).2 (xcuts (cu := _) ?_) pr_X0_takeSlot.1 pr_X0_takeSlot.2 _ _ _ _ _ _ _ _ (xat_ok pr_X0_takeSlot.1 pr_X0_takeSlot.2).1 (xat_ok pr_X0_takeSlot.1 pr_X0_takeSlot.2).2.1 (xat_ok pr_X0_takeSlot.1 pr_X0_takeSlot.2).2.2 h
  · exact (fun _ h => nomatch h)
  · refine (List.forall_mem_cons.mpr ⟨?_, (List.forall_mem_cons.mpr ⟨?_, (fun _ h => nomatch h)⟩)⟩)
    · intro bc bs ls st M h
      replace h := xz_some h
      obtain ⟨rfl, rfl, h⟩ := h
      replace h := lR_some h
      obtain ⟨o, e0, h⟩ := h
      replace h := bd_some h
      obtain ⟨s', rfl, h⟩ := h
      replace h := xe_some h
      obtain ⟨rfl, h⟩ := h
      exact xWx_ls (wx_X0_takeSlot_19 X hi hroom hE fu s' M h) (List.forall_mem_cons.mpr ⟨e0, (fun _ h => nomatch h)⟩)
    · intro bc bs ls st M h
      replace h := xz_some h
      obtain ⟨rfl, rfl, h⟩ := h
      replace h := lR_some h
      obtain ⟨o, e0, h⟩ := h
      replace h := bd_some h
      obtain ⟨s', rfl, h⟩ := h
      replace h := xe_some h
      obtain ⟨rfl, h⟩ := h
      exact xWx_ls (wx_X0_takeSlot_35 X hi hroom hE fu s' M h) (List.forall_mem_cons.mpr ⟨e0, (fun _ h => nomatch h)⟩)

theorem ok_X0_takeSlot (l : Launch) (D : va_G) (cA : Nat → ClassId) (sA : Nat → Nat) (fu : Nat) (s : Nat) (M : xM) {rr : Int32 × xM} (h : F_X0_takeSlot fu s M = some rr) : xMet l D cA sA yX0_takeSlot cX0_takeSlot 2 (some .int) xG 1 + 1 0 0 [.inr (.inr (0, some s))] M (some (.inl rr.1)) rr.2 :=
  xmet_of (by decide +kernel) (Nat.le_of_ble_eq_true rfl) (fun p e s1 m ag below meth c0 A0 ad0 Z X hn hE => wx_X0_takeSlot X hn ⟨Nat.le_refl _, Nat.le_refl _⟩ hE fu s M h)
theorem hw_X0_takeSlot (l : Launch) (D : va_G) (cA : Nat → ClassId) (sA : Nat → Nat) (fu : Nat) {ρ : Type} {r0 : ρ} (kd1 : Nat) : ∀ (as : List xV) (M : xM) (k : Option xV → xM → Option ρ), w_X0_takeSlot fu as M k = some r0 → ∃ v M', xMet l D cA sA yX0_takeSlot cX0_takeSlot 2 (some .int) xG (1 + 1) 0 0 as M v M' ∧ k v M' = some r0 ∧ (kd1 ≠ 2 → ∃ a as', as = .inr (.inr (0, some a)) :: as') := by
  intro as M k h
  unfold w_X0_takeSlot at h
  replace h := pR_some h
  obtain ⟨o, as1, rfl, h⟩ := h
  replace h := bd_some h
  obtain ⟨s, rfl, h⟩ := h
  replace h := xe_some h
  obtain ⟨rfl, h⟩ := h
  obtain ⟨p1, hp, h⟩ := Option.bind_eq_some_iff.mp h
  exact ⟨_, _, ok_X0_takeSlot l D cA sA fu s M hp, h, fun _ => ⟨_, _, rfl⟩⟩
end XCON
