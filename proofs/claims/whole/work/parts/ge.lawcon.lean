/-! ===== the law, walked, by program ===== -/
set_option maxRecDepth 100000 in
theorem plL : xpool xG RL flL 0 nwL := xpool_mk
  (fun _ h => by cases h)
  (List.forall_mem_cons.mpr ⟨⟨RX11, TX11, rfl, by decide, (xg 153 (by decide +kernel) (by decide +kernel)), (xg 154 (by decide +kernel) (by decide +kernel)), (xg 128 (by decide +kernel) (by decide +kernel)), (fun h => absurd h (by decide))⟩, (List.forall_mem_cons.mpr ⟨⟨RX12, TX12, rfl, by decide, (xg 1520 (by decide +kernel) (by decide +kernel)), (xg 1518 (by decide +kernel) (by decide +kernel)), (xg 141 (by decide +kernel) (by decide +kernel)), (fun h => absurd h (by decide))⟩, (fun _ h => by cases h)⟩)⟩) xar
theorem koL_ok : ∀ q ∈ koL, xkoE xG RL q.1 q.2 := (List.forall_mem_cons.mpr ⟨(xg 2169 (by decide +kernel) (by decide +kernel)), (fun _ h => by cases h)⟩)
theorem lS_some {ρ : Type} {ls : xLs} {k : Option ρ} {r : ρ} (h : lS ls k = some r) : xlook 0 ls = some (.inr (.inr (30, some 5))) ∧ k = some r := by
  unfold lS at h
  obtain ⟨o, e0, h1⟩ := lR_some h
  obtain ⟨q, e1, h2⟩ := bd_some h1
  subst e1
  cases hb : Nat.beq q 5 with
  | false => rw [hb] at h2; cases h2
  | true =>
    rw [hb] at h2
    have e5 := Nat.eq_of_beq_eq_true hb
    subst e5
    exact ⟨e0, h2⟩
section XLAWC
variable {p : Program} {l : Launch} {e : Env} {R : Room} {S0 : State} {m : MethodId} {ag : Array Value} {below : List Frame} {meth : Method} {c0 : Code} {D : va_G} {cA : Nat → ClassId} {A0 : Nat → Prop} {sA : Nat → Nat} {M0 : xM} {ad0 : Nat → Nat → Nat} {Z : State → Prop} {b L : Nat} {scr : Nat → Int32}
theorem lk_L_186 : xLink xG RL 186 0 yX12_mark 2 := ⟨Or.inl (xg 2153 (by decide +kernel) (by decide +kernel)), (xg 2154 (by decide +kernel) (by decide +kernel)), (xg 2155 (by decide +kernel) (by decide +kernel)), (xg 141 (by decide +kernel) (by decide +kernel)), ⟨12, by decide, TX12, 29, rfl⟩⟩
set_option maxRecDepth 100000 in
theorem wx_L_law_1327 {mcT msT : Nat} (X : xCtx p R S0 m ag c0 D cA A0 sA 7 cL_law RL lw_tbl mcT msT) (hS : xScr b L scr S0 A0 sA) (hThr : xThr A0 S0 S0.heap) (hst : l.stackTraces = false) (hroom : 237 + 2 ≤ R.frames ∧ 60 * (237 + 2) ≤ R.locals) {rr : Int32 × xM} (hE : ∀ (pc bc bs : Nat) (ls : xLs), decode cL_law pc = .ok (.ireturn, 1) → xWx p l e R S0 m ag below meth c0 D cA A0 sA M0 ad0 7 Z mcT msT pc bc bs ls [.inl rr.1] rr.2) (fu : Nat) (k23 : Option Nat → Option Nat → Option Nat → Int32 → xM → Option (Int32 × xM)) (hk23 : ∀ x1 x2 x3 x4 M, k23 x1 x2 x3 x4 M = some rr → ∀ bc bs, xWx p l e R S0 m ag below meth c0 D cA A0 sA M0 ad0 7 Z mcT msT 23 bc bs [(0, .inr (.inr (30, some 5))), (1, .inr (.inr (11, x1))), (2, .inr (.inr (12, x2))), (3, .inr (.inr (21, x3))), (4, .inl x4)] [] M) (x1 : Option Nat) (x2 : Option Nat) (x3 : Option Nat) (x4 : Int32) (y0 : Int32) (y1 : Int32) (y2 : Option Nat) (y3 : Int32) (M : xM) (h : J_L_law_1327 fu scr L k23 x1 x2 x3 x4 y0 y1 y2 y3 M = some rr) : ∀ bc bs, xWx p l e R S0 m ag below meth c0 D cA A0 sA M0 ad0 7 Z mcT msT 1327 bc bs [(0, .inr (.inr (30, some 5))), (1, .inr (.inr (11, x1))), (2, .inr (.inr (12, x2))), (3, .inr (.inr (21, x3))), (4, .inl x4)] [.inl y0, .inl y1, .inr (.inr (12, y2)), .inl y3] M := by
  intro bc bs
  refine xWx_bud (mcT := mcT) (msT := msT) (bc := 0) (bs := 0) ?_ (by omega) (by omega)
  have X1 := X
  have hE1 := hE
  have hT : ∀ w ∈ xG, w ∈ lw_tbl := fun w hw => (List.mem_filter.mp hw).1
  rw [← q_L_law_1327 fu scr L k23 x1 x2 x3 x4 y0 y1 y2 y3 M] at h
  refine xrunL_sound (nst := 0) (isInit := false) (kd := kdL) X1 hS (xcls_mono hT xclsG) (xpool_mono hT plL) (fun z => by cases z) (fun idx v hf => xkoE_mono hT (koL_ok _ (xfind_mem hf))) (xents (ca := _) ?_) (fun x M' pc bc bs ls hr hd => by
    obtain ⟨_, hr⟩ := gd_some hr
    have e1 : (x, M') = rr := Option.some.inj hr
    subst e1
    exact hE1 pc bc bs ls hd) (fun M' pc bc bs ls hr hd => by cases hr) (xcuts (cu := _) ?_) pr_L_law.1 pr_L_law.2 _ _ _ _ _ _ _ _ (xat_ok pr_L_law.1 pr_L_law.2).1 (xat_ok pr_L_law.1 pr_L_law.2).2.1 (xat_ok pr_L_law.1 pr_L_law.2).2.2 h
  · exact (List.forall_mem_cons.mpr ⟨(xent_met X1 (ci := 12) hT cd_X12_mark lk_L_186 rfl (by decide) rfl (by decide +kernel) (fun z => absurd z (by decide)) (hw_X12_mark l D cA sA fu 0) (fun _ => ⟨by decide, fun _ => ⟨TX12, 29, rfl⟩⟩) (by constructor <;> omega) (by decide)), (fun _ h => nomatch h)⟩)
  · refine (List.forall_mem_cons.mpr ⟨?_, (fun _ h => nomatch h)⟩)
    · intro bc bs ls st M h
      replace h := lS_some h
      obtain ⟨e0, h⟩ := h
      replace h := lR_some h
      obtain ⟨x1', e1, h⟩ := h
      replace h := lR_some h
      obtain ⟨x2', e2, h⟩ := h
      replace h := lR_some h
      obtain ⟨x3', e3, h⟩ := h
      replace h := lI_some h
      obtain ⟨x4', e4, h⟩ := h
      replace h := xe_some h
      obtain ⟨rfl, h⟩ := h
      exact xWx_ls (hk23 x1' x2' x3' x4' M h bc bs) (List.forall_mem_cons.mpr ⟨e0, (List.forall_mem_cons.mpr ⟨e1, (List.forall_mem_cons.mpr ⟨e2, (List.forall_mem_cons.mpr ⟨e3, (List.forall_mem_cons.mpr ⟨e4, (fun _ h => nomatch h)⟩)⟩)⟩)⟩)⟩)
theorem lk_L_182 : xLink xG RL 182 0 yX11_mark 2 := ⟨Or.inl (xg 1416 (by decide +kernel) (by decide +kernel)), (xg 1417 (by decide +kernel) (by decide +kernel)), (xg 1418 (by decide +kernel) (by decide +kernel)), (xg 128 (by decide +kernel) (by decide +kernel)), ⟨11, by decide, TX11, 14, rfl⟩⟩
set_option maxRecDepth 100000 in
theorem wx_L_law_1303 {mcT msT : Nat} (X : xCtx p R S0 m ag c0 D cA A0 sA 7 cL_law RL lw_tbl mcT msT) (hS : xScr b L scr S0 A0 sA) (hThr : xThr A0 S0 S0.heap) (hst : l.stackTraces = false) (hroom : 237 + 2 ≤ R.frames ∧ 60 * (237 + 2) ≤ R.locals) {rr : Int32 × xM} (hE : ∀ (pc bc bs : Nat) (ls : xLs), decode cL_law pc = .ok (.ireturn, 1) → xWx p l e R S0 m ag below meth c0 D cA A0 sA M0 ad0 7 Z mcT msT pc bc bs ls [.inl rr.1] rr.2) (fu : Nat) (k23 : Option Nat → Option Nat → Option Nat → Int32 → xM → Option (Int32 × xM)) (hk23 : ∀ x1 x2 x3 x4 M, k23 x1 x2 x3 x4 M = some rr → ∀ bc bs, xWx p l e R S0 m ag below meth c0 D cA A0 sA M0 ad0 7 Z mcT msT 23 bc bs [(0, .inr (.inr (30, some 5))), (1, .inr (.inr (11, x1))), (2, .inr (.inr (12, x2))), (3, .inr (.inr (21, x3))), (4, .inl x4)] [] M) (x1 : Option Nat) (x2 : Option Nat) (x3 : Option Nat) (x4 : Int32) (y0 : Int32) (y1 : Int32) (y2 : Option Nat) (M : xM) (h : J_L_law_1303 fu scr L k23 x1 x2 x3 x4 y0 y1 y2 M = some rr) : ∀ bc bs, xWx p l e R S0 m ag below meth c0 D cA A0 sA M0 ad0 7 Z mcT msT 1303 bc bs [(0, .inr (.inr (30, some 5))), (1, .inr (.inr (11, x1))), (2, .inr (.inr (12, x2))), (3, .inr (.inr (21, x3))), (4, .inl x4)] [.inl y0, .inl y1, .inr (.inr (11, y2))] M := by
  intro bc bs
  refine xWx_bud (mcT := mcT) (msT := msT) (bc := 0) (bs := 0) ?_ (by omega) (by omega)
  have X1 := X
  have hE1 := hE
  have hT : ∀ w ∈ xG, w ∈ lw_tbl := fun w hw => (List.mem_filter.mp hw).1
  rw [← q_L_law_1303 fu scr L k23 x1 x2 x3 x4 y0 y1 y2 M] at h
  refine xrunL_sound (nst := 0) (isInit := false) (kd := kdL) X1 hS (xcls_mono hT xclsG) (xpool_mono hT plL) (fun z => by cases z) (fun idx v hf => xkoE_mono hT (koL_ok _ (xfind_mem hf))) (xents (ca := _) ?_) (fun x M' pc bc bs ls hr hd => by
    obtain ⟨_, hr⟩ := gd_some hr
    have e1 : (x, M') = rr := Option.some.inj hr
    subst e1
    exact hE1 pc bc bs ls hd) (fun M' pc bc bs ls hr hd => by cases hr) (xcuts (cu := _) ?_) pr_L_law.1 pr_L_law.2 _ _ _ _ _ _ _ _ (xat_ok pr_L_law.1 pr_L_law.2).1 (xat_ok pr_L_law.1 pr_L_law.2).2.1 (xat_ok pr_L_law.1 pr_L_law.2).2.2 h
  · exact (List.forall_mem_cons.mpr ⟨(xent_met X1 (ci := 11) hT cd_X11_mark lk_L_182 rfl (by decide) rfl (by decide +kernel) (fun z => absurd z (by decide)) (hw_X11_mark l D cA sA fu 0) (fun _ => ⟨by decide, fun _ => ⟨TX11, 14, rfl⟩⟩) (by constructor <;> omega) (by decide)), (fun _ h => nomatch h)⟩)
  · refine (List.forall_mem_cons.mpr ⟨?_, (fun _ h => nomatch h)⟩)
    · intro bc bs ls st M h
      replace h := lS_some h
      obtain ⟨e0, h⟩ := h
      replace h := lR_some h
      obtain ⟨x1', e1, h⟩ := h
      replace h := lR_some h
      obtain ⟨x2', e2, h⟩ := h
      replace h := lR_some h
      obtain ⟨x3', e3, h⟩ := h
      replace h := lI_some h
      obtain ⟨x4', e4, h⟩ := h
      replace h := pI_some h
      obtain ⟨y0', st, rfl, h⟩ := h
      replace h := pI_some h
      obtain ⟨y1', st, rfl, h⟩ := h
      replace h := pR_some h
      obtain ⟨y2', st, rfl, h⟩ := h
      replace h := pI_some h
      obtain ⟨y3', st, rfl, h⟩ := h
      replace h := xe_some h
      obtain ⟨rfl, h⟩ := h
      exact xWx_ls (wx_L_law_1327 X1 hS hThr hst hroom hE1 fu k23 hk23 x1' x2' x3' x4' y0' y1' y2' y3' M h bc bs) (List.forall_mem_cons.mpr ⟨e0, (List.forall_mem_cons.mpr ⟨e1, (List.forall_mem_cons.mpr ⟨e2, (List.forall_mem_cons.mpr ⟨e3, (List.forall_mem_cons.mpr ⟨e4, (fun _ h => nomatch h)⟩)⟩)⟩)⟩)⟩)
theorem lk_L_160 : xLink xG RL 160 0 yX12_see 4 := ⟨Or.inl (xg 2036 (by decide +kernel) (by decide +kernel)), (xg 2037 (by decide +kernel) (by decide +kernel)), (xg 2038 (by decide +kernel) (by decide +kernel)), (xg 141 (by decide +kernel) (by decide +kernel)), ⟨12, by decide, TX12, 29, rfl⟩⟩
set_option maxRecDepth 100000 in
theorem wx_L_law_1143 {mcT msT : Nat} (X : xCtx p R S0 m ag c0 D cA A0 sA 7 cL_law RL lw_tbl mcT msT) (hS : xScr b L scr S0 A0 sA) (hThr : xThr A0 S0 S0.heap) (hst : l.stackTraces = false) (hroom : 237 + 2 ≤ R.frames ∧ 60 * (237 + 2) ≤ R.locals) {rr : Int32 × xM} (hE : ∀ (pc bc bs : Nat) (ls : xLs), decode cL_law pc = .ok (.ireturn, 1) → xWx p l e R S0 m ag below meth c0 D cA A0 sA M0 ad0 7 Z mcT msT pc bc bs ls [.inl rr.1] rr.2) (fu : Nat) (k23 : Option Nat → Option Nat → Option Nat → Int32 → xM → Option (Int32 × xM)) (hk23 : ∀ x1 x2 x3 x4 M, k23 x1 x2 x3 x4 M = some rr → ∀ bc bs, xWx p l e R S0 m ag below meth c0 D cA A0 sA M0 ad0 7 Z mcT msT 23 bc bs [(0, .inr (.inr (30, some 5))), (1, .inr (.inr (11, x1))), (2, .inr (.inr (12, x2))), (3, .inr (.inr (21, x3))), (4, .inl x4)] [] M) (x1 : Option Nat) (x2 : Option Nat) (x3 : Option Nat) (x4 : Int32) (y0 : Int32) (y1 : Int32) (y2 : Int32) (y3 : Int32) (y4 : Option Nat) (y5 : Int32) (M : xM) (h : J_L_law_1143 fu scr L k23 x1 x2 x3 x4 y0 y1 y2 y3 y4 y5 M = some rr) : ∀ bc bs, xWx p l e R S0 m ag below meth c0 D cA A0 sA M0 ad0 7 Z mcT msT 1143 bc bs [(0, .inr (.inr (30, some 5))), (1, .inr (.inr (11, x1))), (2, .inr (.inr (12, x2))), (3, .inr (.inr (21, x3))), (4, .inl x4)] [.inl y0, .inl y1, .inl y2, .inl y3, .inr (.inr (12, y4)), .inl y5] M := by
  intro bc bs
  refine xWx_bud (mcT := mcT) (msT := msT) (bc := 0) (bs := 0) ?_ (by omega) (by omega)
  have X1 := X
  have hE1 := hE
  have hT : ∀ w ∈ xG, w ∈ lw_tbl := fun w hw => (List.mem_filter.mp hw).1
  rw [← q_L_law_1143 fu scr L k23 x1 x2 x3 x4 y0 y1 y2 y3 y4 y5 M] at h
  refine xrunL_sound (nst := 0) (isInit := false) (kd := kdL) X1 hS (xcls_mono hT xclsG) (xpool_mono hT plL) (fun z => by cases z) (fun idx v hf => xkoE_mono hT (koL_ok _ (xfind_mem hf))) (xents (ca := _) ?_) (fun x M' pc bc bs ls hr hd => by
    obtain ⟨_, hr⟩ := gd_some hr
    have e1 : (x, M') = rr := Option.some.inj hr
    subst e1
    exact hE1 pc bc bs ls hd) (fun M' pc bc bs ls hr hd => by cases hr) (xcuts (cu := _) ?_) pr_L_law.1 pr_L_law.2 _ _ _ _ _ _ _ _ (xat_ok pr_L_law.1 pr_L_law.2).1 (xat_ok pr_L_law.1 pr_L_law.2).2.1 (xat_ok pr_L_law.1 pr_L_law.2).2.2 h
  · exact (List.forall_mem_cons.mpr ⟨(xent_met X1 (ci := 12) hT cd_X12_see lk_L_160 rfl (by decide) rfl (by decide +kernel) (fun z => absurd z (by decide)) (hw_X12_see l D cA sA fu 0) (fun _ => ⟨by decide, fun _ => ⟨TX12, 29, rfl⟩⟩) (by constructor <;> omega) (by decide)), (fun _ h => nomatch h)⟩)
  · refine (List.forall_mem_cons.mpr ⟨?_, (fun _ h => nomatch h)⟩)
    · intro bc bs ls st M h
      replace h := lS_some h
      obtain ⟨e0, h⟩ := h
      replace h := lR_some h
      obtain ⟨x1', e1, h⟩ := h
      replace h := lR_some h
      obtain ⟨x2', e2, h⟩ := h
      replace h := lR_some h
      obtain ⟨x3', e3, h⟩ := h
      replace h := lI_some h
      obtain ⟨x4', e4, h⟩ := h
      replace h := xe_some h
      obtain ⟨rfl, h⟩ := h
      exact xWx_ls (hk23 x1' x2' x3' x4' M h bc bs) (List.forall_mem_cons.mpr ⟨e0, (List.forall_mem_cons.mpr ⟨e1, (List.forall_mem_cons.mpr ⟨e2, (List.forall_mem_cons.mpr ⟨e3, (List.forall_mem_cons.mpr ⟨e4, (fun _ h => nomatch h)⟩)⟩)⟩)⟩)⟩)
theorem lk_L_156 : xLink xG RL 156 0 yX11_see 4 := ⟨Or.inl (xg 1352 (by decide +kernel) (by decide +kernel)), (xg 1353 (by decide +kernel) (by decide +kernel)), (xg 1354 (by decide +kernel) (by decide +kernel)), (xg 128 (by decide +kernel) (by decide +kernel)), ⟨11, by decide, TX11, 14, rfl⟩⟩
set_option maxRecDepth 100000 in
theorem wx_L_law_1107 {mcT msT : Nat} (X : xCtx p R S0 m ag c0 D cA A0 sA 7 cL_law RL lw_tbl mcT msT) (hS : xScr b L scr S0 A0 sA) (hThr : xThr A0 S0 S0.heap) (hst : l.stackTraces = false) (hroom : 237 + 2 ≤ R.frames ∧ 60 * (237 + 2) ≤ R.locals) {rr : Int32 × xM} (hE : ∀ (pc bc bs : Nat) (ls : xLs), decode cL_law pc = .ok (.ireturn, 1) → xWx p l e R S0 m ag below meth c0 D cA A0 sA M0 ad0 7 Z mcT msT pc bc bs ls [.inl rr.1] rr.2) (fu : Nat) (k23 : Option Nat → Option Nat → Option Nat → Int32 → xM → Option (Int32 × xM)) (hk23 : ∀ x1 x2 x3 x4 M, k23 x1 x2 x3 x4 M = some rr → ∀ bc bs, xWx p l e R S0 m ag below meth c0 D cA A0 sA M0 ad0 7 Z mcT msT 23 bc bs [(0, .inr (.inr (30, some 5))), (1, .inr (.inr (11, x1))), (2, .inr (.inr (12, x2))), (3, .inr (.inr (21, x3))), (4, .inl x4)] [] M) (x1 : Option Nat) (x2 : Option Nat) (x3 : Option Nat) (x4 : Int32) (y0 : Int32) (y1 : Int32) (y2 : Int32) (y3 : Int32) (y4 : Option Nat) (M : xM) (h : J_L_law_1107 fu scr L k23 x1 x2 x3 x4 y0 y1 y2 y3 y4 M = some rr) : ∀ bc bs, xWx p l e R S0 m ag below meth c0 D cA A0 sA M0 ad0 7 Z mcT msT 1107 bc bs [(0, .inr (.inr (30, some 5))), (1, .inr (.inr (11, x1))), (2, .inr (.inr (12, x2))), (3, .inr (.inr (21, x3))), (4, .inl x4)] [.inl y0, .inl y1, .inl y2, .inl y3, .inr (.inr (11, y4))] M := by
  intro bc bs
  refine xWx_bud (mcT := mcT) (msT := msT) (bc := 0) (bs := 0) ?_ (by omega) (by omega)
  have X1 := X
  have hE1 := hE
  have hT : ∀ w ∈ xG, w ∈ lw_tbl := fun w hw => (List.mem_filter.mp hw).1
  rw [← q_L_law_1107 fu scr L k23 x1 x2 x3 x4 y0 y1 y2 y3 y4 M] at h
  refine xrunL_sound (nst := 0) (isInit := false) (kd := kdL) X1 hS (xcls_mono hT xclsG) (xpool_mono hT plL) (fun z => by cases z) (fun idx v hf => xkoE_mono hT (koL_ok _ (xfind_mem hf))) (xents (ca := _) ?_) (fun x M' pc bc bs ls hr hd => by
    obtain ⟨_, hr⟩ := gd_some hr
    have e1 : (x, M') = rr := Option.some.inj hr
    subst e1
    exact hE1 pc bc bs ls hd) (fun M' pc bc bs ls hr hd => by cases hr) (xcuts (cu := _) ?_) pr_L_law.1 pr_L_law.2 _ _ _ _ _ _ _ _ (xat_ok pr_L_law.1 pr_L_law.2).1 (xat_ok pr_L_law.1 pr_L_law.2).2.1 (xat_ok pr_L_law.1 pr_L_law.2).2.2 h
  · exact (List.forall_mem_cons.mpr ⟨(xent_met X1 (ci := 11) hT cd_X11_see lk_L_156 rfl (by decide) rfl (by decide +kernel) (fun z => absurd z (by decide)) (hw_X11_see l D cA sA fu 0) (fun _ => ⟨by decide, fun _ => ⟨TX11, 14, rfl⟩⟩) (by constructor <;> omega) (by decide)), (fun _ h => nomatch h)⟩)
  · refine (List.forall_mem_cons.mpr ⟨?_, (fun _ h => nomatch h)⟩)
    · intro bc bs ls st M h
      replace h := lS_some h
      obtain ⟨e0, h⟩ := h
      replace h := lR_some h
      obtain ⟨x1', e1, h⟩ := h
      replace h := lR_some h
      obtain ⟨x2', e2, h⟩ := h
      replace h := lR_some h
      obtain ⟨x3', e3, h⟩ := h
      replace h := lI_some h
      obtain ⟨x4', e4, h⟩ := h
      replace h := pI_some h
      obtain ⟨y0', st, rfl, h⟩ := h
      replace h := pI_some h
      obtain ⟨y1', st, rfl, h⟩ := h
      replace h := pI_some h
      obtain ⟨y2', st, rfl, h⟩ := h
      replace h := pI_some h
      obtain ⟨y3', st, rfl, h⟩ := h
      replace h := pR_some h
      obtain ⟨y4', st, rfl, h⟩ := h
      replace h := pI_some h
      obtain ⟨y5', st, rfl, h⟩ := h
      replace h := xe_some h
      obtain ⟨rfl, h⟩ := h
      exact xWx_ls (wx_L_law_1143 X1 hS hThr hst hroom hE1 fu k23 hk23 x1' x2' x3' x4' y0' y1' y2' y3' y4' y5' M h bc bs) (List.forall_mem_cons.mpr ⟨e0, (List.forall_mem_cons.mpr ⟨e1, (List.forall_mem_cons.mpr ⟨e2, (List.forall_mem_cons.mpr ⟨e3, (List.forall_mem_cons.mpr ⟨e4, (fun _ h => nomatch h)⟩)⟩)⟩)⟩)⟩)
theorem lk_L_21 : xLink xG RL 21 0 yX11_feed 3 := ⟨Or.inl (xg 626 (by decide +kernel) (by decide +kernel)), (xg 627 (by decide +kernel) (by decide +kernel)), (xg 628 (by decide +kernel) (by decide +kernel)), (xg 128 (by decide +kernel) (by decide +kernel)), ⟨11, by decide, TX11, 14, rfl⟩⟩
theorem lk_L_25 : xLink xG RL 25 0 yX12_feed 3 := ⟨Or.inl (xg 1511 (by decide +kernel) (by decide +kernel)), (xg 1512 (by decide +kernel) (by decide +kernel)), (xg 1513 (by decide +kernel) (by decide +kernel)), (xg 141 (by decide +kernel) (by decide +kernel)), ⟨12, by decide, TX12, 29, rfl⟩⟩
theorem lk_L_26 : xLink xG RL 26 0 yX11_store 0 := ⟨Or.inl (xg 635 (by decide +kernel) (by decide +kernel)), (xg 636 (by decide +kernel) (by decide +kernel)), (xg 637 (by decide +kernel) (by decide +kernel)), (xg 128 (by decide +kernel) (by decide +kernel)), ⟨11, by decide, TX11, 14, rfl⟩⟩
theorem lk_L_30 : xLink xG RL 30 0 yX12_store 0 := ⟨Or.inl (xg 1648 (by decide +kernel) (by decide +kernel)), (xg 1649 (by decide +kernel) (by decide +kernel)), (xg 1650 (by decide +kernel) (by decide +kernel)), (xg 141 (by decide +kernel) (by decide +kernel)), ⟨12, by decide, TX12, 29, rfl⟩⟩
theorem lk_L_31 : xLink xG RL 31 0 yX11_work 0 := ⟨Or.inl (xg 880 (by decide +kernel) (by decide +kernel)), (xg 881 (by decide +kernel) (by decide +kernel)), (xg 882 (by decide +kernel) (by decide +kernel)), (xg 128 (by decide +kernel) (by decide +kernel)), ⟨11, by decide, TX11, 14, rfl⟩⟩
theorem lk_L_34 : xLink xG RL 34 0 yX12_work 0 := ⟨Or.inl (xg 1755 (by decide +kernel) (by decide +kernel)), (xg 1756 (by decide +kernel) (by decide +kernel)), (xg 1757 (by decide +kernel) (by decide +kernel)), (xg 141 (by decide +kernel) (by decide +kernel)), ⟨12, by decide, TX12, 29, rfl⟩⟩
theorem lk_L_35 : xLink xG RL 35 0 yX11_slot 2 := ⟨Or.inl (xg 908 (by decide +kernel) (by decide +kernel)), (xg 909 (by decide +kernel) (by decide +kernel)), (xg 910 (by decide +kernel) (by decide +kernel)), (xg 128 (by decide +kernel) (by decide +kernel)), ⟨11, by decide, TX11, 14, rfl⟩⟩
theorem lk_L_39 : xLink xG RL 39 0 yX12_slot 2 := ⟨Or.inl (xg 1767 (by decide +kernel) (by decide +kernel)), (xg 1768 (by decide +kernel) (by decide +kernel)), (xg 1769 (by decide +kernel) (by decide +kernel)), (xg 141 (by decide +kernel) (by decide +kernel)), ⟨12, by decide, TX12, 29, rfl⟩⟩
theorem lk_L_40 : xLink xG RL 40 0 yX11_block 2 := ⟨Or.inl (xg 944 (by decide +kernel) (by decide +kernel)), (xg 945 (by decide +kernel) (by decide +kernel)), (xg 946 (by decide +kernel) (by decide +kernel)), (xg 128 (by decide +kernel) (by decide +kernel)), ⟨11, by decide, TX11, 14, rfl⟩⟩
theorem lk_L_43 : xLink xG RL 43 0 yX12_block 2 := ⟨Or.inl (xg 1825 (by decide +kernel) (by decide +kernel)), (xg 1826 (by decide +kernel) (by decide +kernel)), (xg 1827 (by decide +kernel) (by decide +kernel)), (xg 141 (by decide +kernel) (by decide +kernel)), ⟨12, by decide, TX12, 29, rfl⟩⟩
theorem lk_L_44 : xLink xG RL 44 0 yX11_file 2 := ⟨Or.inl (xg 957 (by decide +kernel) (by decide +kernel)), (xg 958 (by decide +kernel) (by decide +kernel)), (xg 959 (by decide +kernel) (by decide +kernel)), (xg 128 (by decide +kernel) (by decide +kernel)), ⟨11, by decide, TX11, 14, rfl⟩⟩
theorem lk_L_47 : xLink xG RL 47 0 yX12_file 2 := ⟨Or.inl (xg 1833 (by decide +kernel) (by decide +kernel)), (xg 1834 (by decide +kernel) (by decide +kernel)), (xg 1835 (by decide +kernel) (by decide +kernel)), (xg 141 (by decide +kernel) (by decide +kernel)), ⟨12, by decide, TX12, 29, rfl⟩⟩
theorem lk_L_48 : xLink xG RL 48 0 yX11_write 3 := ⟨Or.inl (xg 977 (by decide +kernel) (by decide +kernel)), (xg 978 (by decide +kernel) (by decide +kernel)), (xg 979 (by decide +kernel) (by decide +kernel)), (xg 128 (by decide +kernel) (by decide +kernel)), ⟨11, by decide, TX11, 14, rfl⟩⟩
theorem lk_L_52 : xLink xG RL 52 0 yX12_write 3 := ⟨Or.inl (xg 1861 (by decide +kernel) (by decide +kernel)), (xg 1862 (by decide +kernel) (by decide +kernel)), (xg 1863 (by decide +kernel) (by decide +kernel)), (xg 141 (by decide +kernel) (by decide +kernel)), ⟨12, by decide, TX12, 29, rfl⟩⟩
theorem lk_L_53 : xLink xG RL 53 0 yX11_remove 1 := ⟨Or.inl (xg 1104 (by decide +kernel) (by decide +kernel)), (xg 1105 (by decide +kernel) (by decide +kernel)), (xg 1106 (by decide +kernel) (by decide +kernel)), (xg 128 (by decide +kernel) (by decide +kernel)), ⟨11, by decide, TX11, 14, rfl⟩⟩
theorem lk_L_56 : xLink xG RL 56 0 yX12_remove 1 := ⟨Or.inl (xg 1940 (by decide +kernel) (by decide +kernel)), (xg 1941 (by decide +kernel) (by decide +kernel)), (xg 1942 (by decide +kernel) (by decide +kernel)), (xg 141 (by decide +kernel) (by decide +kernel)), ⟨12, by decide, TX12, 29, rfl⟩⟩
theorem lk_L_57 : xLink xG RL 57 0 yX11_open 1 := ⟨Or.inl (xg 1124 (by decide +kernel) (by decide +kernel)), (xg 1125 (by decide +kernel) (by decide +kernel)), (xg 1126 (by decide +kernel) (by decide +kernel)), (xg 128 (by decide +kernel) (by decide +kernel)), ⟨11, by decide, TX11, 14, rfl⟩⟩
theorem lk_L_61 : xLink xG RL 61 0 yX12_open 1 := ⟨Or.inl (xg 1952 (by decide +kernel) (by decide +kernel)), (xg 1953 (by decide +kernel) (by decide +kernel)), (xg 1954 (by decide +kernel) (by decide +kernel)), (xg 141 (by decide +kernel) (by decide +kernel)), ⟨12, by decide, TX12, 29, rfl⟩⟩
theorem lk_L_62 : xLink xG RL 62 0 yX11_close 1 := ⟨Or.inl (xg 1132 (by decide +kernel) (by decide +kernel)), (xg 1133 (by decide +kernel) (by decide +kernel)), (xg 1134 (by decide +kernel) (by decide +kernel)), (xg 128 (by decide +kernel) (by decide +kernel)), ⟨11, by decide, TX11, 14, rfl⟩⟩
theorem lk_L_65 : xLink xG RL 65 0 yX12_close 1 := ⟨Or.inl (xg 1960 (by decide +kernel) (by decide +kernel)), (xg 1961 (by decide +kernel) (by decide +kernel)), (xg 1962 (by decide +kernel) (by decide +kernel)), (xg 141 (by decide +kernel) (by decide +kernel)), ⟨12, by decide, TX12, 29, rfl⟩⟩
theorem lk_L_66 : xLink xG RL 66 0 yX11_commit 0 := ⟨Or.inl (xg 1140 (by decide +kernel) (by decide +kernel)), (xg 1141 (by decide +kernel) (by decide +kernel)), (xg 1142 (by decide +kernel) (by decide +kernel)), (xg 128 (by decide +kernel) (by decide +kernel)), ⟨11, by decide, TX11, 14, rfl⟩⟩
theorem lk_L_69 : xLink xG RL 69 0 yX12_commit 0 := ⟨Or.inl (xg 1964 (by decide +kernel) (by decide +kernel)), (xg 1965 (by decide +kernel) (by decide +kernel)), (xg 1966 (by decide +kernel) (by decide +kernel)), (xg 141 (by decide +kernel) (by decide +kernel)), ⟨12, by decide, TX12, 29, rfl⟩⟩
theorem lk_L_70 : xLink xG RL 70 0 yX11_collect 0 := ⟨Or.inl (xg 1145 (by decide +kernel) (by decide +kernel)), (xg 1146 (by decide +kernel) (by decide +kernel)), (xg 1147 (by decide +kernel) (by decide +kernel)), (xg 128 (by decide +kernel) (by decide +kernel)), ⟨11, by decide, TX11, 14, rfl⟩⟩
theorem lk_L_73 : xLink xG RL 73 0 yX12_collect 0 := ⟨Or.inl (xg 1968 (by decide +kernel) (by decide +kernel)), (xg 1969 (by decide +kernel) (by decide +kernel)), (xg 1970 (by decide +kernel) (by decide +kernel)), (xg 141 (by decide +kernel) (by decide +kernel)), ⟨12, by decide, TX12, 29, rfl⟩⟩
theorem lk_L_74 : xLink xG RL 74 0 yX11_cut 1 := ⟨Or.inl (xg 1150 (by decide +kernel) (by decide +kernel)), (xg 1151 (by decide +kernel) (by decide +kernel)), (xg 1152 (by decide +kernel) (by decide +kernel)), (xg 128 (by decide +kernel) (by decide +kernel)), ⟨11, by decide, TX11, 14, rfl⟩⟩
theorem lk_L_77 : xLink xG RL 77 0 yX12_cut 1 := ⟨Or.inl (xg 1972 (by decide +kernel) (by decide +kernel)), (xg 1973 (by decide +kernel) (by decide +kernel)), (xg 1974 (by decide +kernel) (by decide +kernel)), (xg 141 (by decide +kernel) (by decide +kernel)), ⟨12, by decide, TX12, 29, rfl⟩⟩
theorem lk_L_78 : xLink xG RL 78 0 yX11_mount 0 := ⟨Or.inl (xg 1158 (by decide +kernel) (by decide +kernel)), (xg 1159 (by decide +kernel) (by decide +kernel)), (xg 1160 (by decide +kernel) (by decide +kernel)), (xg 128 (by decide +kernel) (by decide +kernel)), ⟨11, by decide, TX11, 14, rfl⟩⟩
theorem lk_L_81 : xLink xG RL 81 0 yX12_mount 0 := ⟨Or.inl (xg 1976 (by decide +kernel) (by decide +kernel)), (xg 1977 (by decide +kernel) (by decide +kernel)), (xg 1978 (by decide +kernel) (by decide +kernel)), (xg 141 (by decide +kernel) (by decide +kernel)), ⟨12, by decide, TX12, 29, rfl⟩⟩
theorem lk_L_82 : xLink xG RL 82 0 yX11_judged 1 := ⟨Or.inl (xg 1175 (by decide +kernel) (by decide +kernel)), (xg 1176 (by decide +kernel) (by decide +kernel)), (xg 1177 (by decide +kernel) (by decide +kernel)), (xg 128 (by decide +kernel) (by decide +kernel)), ⟨11, by decide, TX11, 14, rfl⟩⟩
theorem lk_L_85 : xLink xG RL 85 0 yX12_judged 1 := ⟨Or.inl (xg 1988 (by decide +kernel) (by decide +kernel)), (xg 1989 (by decide +kernel) (by decide +kernel)), (xg 1990 (by decide +kernel) (by decide +kernel)), (xg 141 (by decide +kernel) (by decide +kernel)), ⟨12, by decide, TX12, 29, rfl⟩⟩
theorem lk_L_86 : xLink xG RL 86 0 yX11_says 2 := ⟨Or.inl (xg 1211 (by decide +kernel) (by decide +kernel)), (xg 1212 (by decide +kernel) (by decide +kernel)), (xg 1213 (by decide +kernel) (by decide +kernel)), (xg 128 (by decide +kernel) (by decide +kernel)), ⟨11, by decide, TX11, 14, rfl⟩⟩
theorem lk_L_89 : xLink xG RL 89 0 yX12_says 2 := ⟨Or.inl (xg 2060 (by decide +kernel) (by decide +kernel)), (xg 2061 (by decide +kernel) (by decide +kernel)), (xg 2062 (by decide +kernel) (by decide +kernel)), (xg 141 (by decide +kernel) (by decide +kernel)), ⟨12, by decide, TX12, 29, rfl⟩⟩
theorem lk_L_90 : xLink xG RL 90 0 yX11_may 2 := ⟨Or.inl (xg 1220 (by decide +kernel) (by decide +kernel)), (xg 1221 (by decide +kernel) (by decide +kernel)), (xg 1222 (by decide +kernel) (by decide +kernel)), (xg 128 (by decide +kernel) (by decide +kernel)), ⟨11, by decide, TX11, 14, rfl⟩⟩
theorem lk_L_94 : xLink xG RL 94 0 yX12_may 2 := ⟨Or.inl (xg 2064 (by decide +kernel) (by decide +kernel)), (xg 2065 (by decide +kernel) (by decide +kernel)), (xg 2066 (by decide +kernel) (by decide +kernel)), (xg 141 (by decide +kernel) (by decide +kernel)), ⟨12, by decide, TX12, 29, rfl⟩⟩
theorem lk_L_95 : xLink xG RL 95 0 yX11_spare 0 := ⟨Or.inl (xg 1226 (by decide +kernel) (by decide +kernel)), (xg 1227 (by decide +kernel) (by decide +kernel)), (xg 1228 (by decide +kernel) (by decide +kernel)), (xg 128 (by decide +kernel) (by decide +kernel)), ⟨11, by decide, TX11, 14, rfl⟩⟩
theorem lk_L_98 : xLink xG RL 98 0 yX12_spare 0 := ⟨Or.inl (xg 2068 (by decide +kernel) (by decide +kernel)), (xg 2069 (by decide +kernel) (by decide +kernel)), (xg 2070 (by decide +kernel) (by decide +kernel)), (xg 141 (by decide +kernel) (by decide +kernel)), ⟨12, by decide, TX12, 29, rfl⟩⟩
theorem lk_L_99 : xLink xG RL 99 0 yX11_pick 0 := ⟨Or.inl (xg 1232 (by decide +kernel) (by decide +kernel)), (xg 1233 (by decide +kernel) (by decide +kernel)), (xg 1234 (by decide +kernel) (by decide +kernel)), (xg 128 (by decide +kernel) (by decide +kernel)), ⟨11, by decide, TX11, 14, rfl⟩⟩
theorem lk_L_102 : xLink xG RL 102 0 yX12_pick 0 := ⟨Or.inl (xg 2072 (by decide +kernel) (by decide +kernel)), (xg 2073 (by decide +kernel) (by decide +kernel)), (xg 2074 (by decide +kernel) (by decide +kernel)), (xg 141 (by decide +kernel) (by decide +kernel)), ⟨12, by decide, TX12, 29, rfl⟩⟩
theorem lk_L_103 : xLink xG RL 103 0 yX11_gain 0 := ⟨Or.inl (xg 1237 (by decide +kernel) (by decide +kernel)), (xg 1238 (by decide +kernel) (by decide +kernel)), (xg 1239 (by decide +kernel) (by decide +kernel)), (xg 128 (by decide +kernel) (by decide +kernel)), ⟨11, by decide, TX11, 14, rfl⟩⟩
theorem lk_L_106 : xLink xG RL 106 0 yX12_gain 0 := ⟨Or.inl (xg 2076 (by decide +kernel) (by decide +kernel)), (xg 2077 (by decide +kernel) (by decide +kernel)), (xg 2078 (by decide +kernel) (by decide +kernel)), (xg 141 (by decide +kernel) (by decide +kernel)), ⟨12, by decide, TX12, 29, rfl⟩⟩
theorem lk_L_107 : xLink xG RL 107 0 yX11_rounds 1 := ⟨Or.inl (xg 1245 (by decide +kernel) (by decide +kernel)), (xg 1246 (by decide +kernel) (by decide +kernel)), (xg 1247 (by decide +kernel) (by decide +kernel)), (xg 128 (by decide +kernel) (by decide +kernel)), ⟨11, by decide, TX11, 14, rfl⟩⟩
theorem lk_L_110 : xLink xG RL 110 0 yX12_rounds 1 := ⟨Or.inl (xg 2080 (by decide +kernel) (by decide +kernel)), (xg 2081 (by decide +kernel) (by decide +kernel)), (xg 2082 (by decide +kernel) (by decide +kernel)), (xg 141 (by decide +kernel) (by decide +kernel)), ⟨12, by decide, TX12, 29, rfl⟩⟩
theorem lk_L_111 : xLink xG RL 111 0 yX11_found 0 := ⟨Or.inl (xg 1262 (by decide +kernel) (by decide +kernel)), (xg 1263 (by decide +kernel) (by decide +kernel)), (xg 1264 (by decide +kernel) (by decide +kernel)), (xg 128 (by decide +kernel) (by decide +kernel)), ⟨11, by decide, TX11, 14, rfl⟩⟩
theorem lk_L_114 : xLink xG RL 114 0 yX12_found 0 := ⟨Or.inl (xg 2088 (by decide +kernel) (by decide +kernel)), (xg 2089 (by decide +kernel) (by decide +kernel)), (xg 2090 (by decide +kernel) (by decide +kernel)), (xg 141 (by decide +kernel) (by decide +kernel)), ⟨12, by decide, TX12, 29, rfl⟩⟩
theorem lk_L_115 : xLink xG RL 115 0 yX11_agrees 0 := ⟨Or.inl (xg 1270 (by decide +kernel) (by decide +kernel)), (xg 1271 (by decide +kernel) (by decide +kernel)), (xg 1272 (by decide +kernel) (by decide +kernel)), (xg 128 (by decide +kernel) (by decide +kernel)), ⟨11, by decide, TX11, 14, rfl⟩⟩
theorem lk_L_119 : xLink xG RL 119 0 yX12_agrees 0 := ⟨Or.inl (xg 2096 (by decide +kernel) (by decide +kernel)), (xg 2097 (by decide +kernel) (by decide +kernel)), (xg 2098 (by decide +kernel) (by decide +kernel)), (xg 141 (by decide +kernel) (by decide +kernel)), ⟨12, by decide, TX12, 29, rfl⟩⟩
theorem lk_L_120 : xLink xG RL 120 0 yX11_loses 0 := ⟨Or.inl (xg 1278 (by decide +kernel) (by decide +kernel)), (xg 1279 (by decide +kernel) (by decide +kernel)), (xg 1280 (by decide +kernel) (by decide +kernel)), (xg 128 (by decide +kernel) (by decide +kernel)), ⟨11, by decide, TX11, 14, rfl⟩⟩
theorem lk_L_123 : xLink xG RL 123 0 yX12_loses 0 := ⟨Or.inl (xg 2100 (by decide +kernel) (by decide +kernel)), (xg 2101 (by decide +kernel) (by decide +kernel)), (xg 2102 (by decide +kernel) (by decide +kernel)), (xg 141 (by decide +kernel) (by decide +kernel)), ⟨12, by decide, TX12, 29, rfl⟩⟩
theorem lk_L_124 : xLink xG RL 124 0 yX11_wear 0 := ⟨Or.inl (xg 1286 (by decide +kernel) (by decide +kernel)), (xg 1287 (by decide +kernel) (by decide +kernel)), (xg 1288 (by decide +kernel) (by decide +kernel)), (xg 128 (by decide +kernel) (by decide +kernel)), ⟨11, by decide, TX11, 14, rfl⟩⟩
theorem lk_L_127 : xLink xG RL 127 0 yX12_wear 0 := ⟨Or.inl (xg 2104 (by decide +kernel) (by decide +kernel)), (xg 2105 (by decide +kernel) (by decide +kernel)), (xg 2106 (by decide +kernel) (by decide +kernel)), (xg 141 (by decide +kernel) (by decide +kernel)), ⟨12, by decide, TX12, 29, rfl⟩⟩
theorem lk_L_128 : xLink xG RL 128 0 yX11_oldest 0 := ⟨Or.inl (xg 1294 (by decide +kernel) (by decide +kernel)), (xg 1295 (by decide +kernel) (by decide +kernel)), (xg 1296 (by decide +kernel) (by decide +kernel)), (xg 128 (by decide +kernel) (by decide +kernel)), ⟨11, by decide, TX11, 14, rfl⟩⟩
theorem lk_L_131 : xLink xG RL 131 0 yX12_oldest 0 := ⟨Or.inl (xg 2109 (by decide +kernel) (by decide +kernel)), (xg 2110 (by decide +kernel) (by decide +kernel)), (xg 2111 (by decide +kernel) (by decide +kernel)), (xg 141 (by decide +kernel) (by decide +kernel)), ⟨12, by decide, TX12, 29, rfl⟩⟩
theorem lk_L_132 : xLink xG RL 132 0 yX11_hot 0 := ⟨Or.inl (xg 1306 (by decide +kernel) (by decide +kernel)), (xg 1307 (by decide +kernel) (by decide +kernel)), (xg 1308 (by decide +kernel) (by decide +kernel)), (xg 128 (by decide +kernel) (by decide +kernel)), ⟨11, by decide, TX11, 14, rfl⟩⟩
theorem lk_L_135 : xLink xG RL 135 0 yX12_hot 0 := ⟨Or.inl (xg 2121 (by decide +kernel) (by decide +kernel)), (xg 2122 (by decide +kernel) (by decide +kernel)), (xg 2123 (by decide +kernel) (by decide +kernel)), (xg 141 (by decide +kernel) (by decide +kernel)), ⟨12, by decide, TX12, 29, rfl⟩⟩
theorem lk_L_136 : xLink xG RL 136 0 yX11_copies 2 := ⟨Or.inl (xg 1318 (by decide +kernel) (by decide +kernel)), (xg 1319 (by decide +kernel) (by decide +kernel)), (xg 1320 (by decide +kernel) (by decide +kernel)), (xg 128 (by decide +kernel) (by decide +kernel)), ⟨11, by decide, TX11, 14, rfl⟩⟩
theorem lk_L_139 : xLink xG RL 139 0 yX12_copies 2 := ⟨Or.inl (xg 2125 (by decide +kernel) (by decide +kernel)), (xg 2126 (by decide +kernel) (by decide +kernel)), (xg 2127 (by decide +kernel) (by decide +kernel)), (xg 141 (by decide +kernel) (by decide +kernel)), ⟨12, by decide, TX12, 29, rfl⟩⟩
theorem lk_L_140 : xLink xG RL 140 0 yX11_chain 2 := ⟨Or.inl (xg 1327 (by decide +kernel) (by decide +kernel)), (xg 1328 (by decide +kernel) (by decide +kernel)), (xg 1329 (by decide +kernel) (by decide +kernel)), (xg 128 (by decide +kernel) (by decide +kernel)), ⟨11, by decide, TX11, 14, rfl⟩⟩
theorem lk_L_143 : xLink xG RL 143 0 yX12_chain 2 := ⟨Or.inl (xg 2133 (by decide +kernel) (by decide +kernel)), (xg 2134 (by decide +kernel) (by decide +kernel)), (xg 2135 (by decide +kernel) (by decide +kernel)), (xg 141 (by decide +kernel) (by decide +kernel)), ⟨12, by decide, TX12, 29, rfl⟩⟩
theorem lk_L_144 : xLink xG RL 144 0 yX11_after 3 := ⟨Or.inl (xg 1331 (by decide +kernel) (by decide +kernel)), (xg 1332 (by decide +kernel) (by decide +kernel)), (xg 1333 (by decide +kernel) (by decide +kernel)), (xg 128 (by decide +kernel) (by decide +kernel)), ⟨11, by decide, TX11, 14, rfl⟩⟩
theorem lk_L_147 : xLink xG RL 147 0 yX12_after 3 := ⟨Or.inl (xg 1996 (by decide +kernel) (by decide +kernel)), (xg 1997 (by decide +kernel) (by decide +kernel)), (xg 1998 (by decide +kernel) (by decide +kernel)), (xg 141 (by decide +kernel) (by decide +kernel)), ⟨12, by decide, TX12, 29, rfl⟩⟩
theorem lk_L_148 : xLink xG RL 148 0 yX11_ends 0 := ⟨Or.inl (xg 1344 (by decide +kernel) (by decide +kernel)), (xg 1345 (by decide +kernel) (by decide +kernel)), (xg 1346 (by decide +kernel) (by decide +kernel)), (xg 128 (by decide +kernel) (by decide +kernel)), ⟨11, by decide, TX11, 14, rfl⟩⟩
theorem lk_L_151 : xLink xG RL 151 0 yX12_ends 0 := ⟨Or.inl (xg 2025 (by decide +kernel) (by decide +kernel)), (xg 2026 (by decide +kernel) (by decide +kernel)), (xg 2027 (by decide +kernel) (by decide +kernel)), (xg 141 (by decide +kernel) (by decide +kernel)), ⟨12, by decide, TX12, 29, rfl⟩⟩
theorem lk_L_152 : xLink xG RL 152 0 yX11_halves 0 := ⟨Or.inl (xg 1348 (by decide +kernel) (by decide +kernel)), (xg 1349 (by decide +kernel) (by decide +kernel)), (xg 1350 (by decide +kernel) (by decide +kernel)), (xg 128 (by decide +kernel) (by decide +kernel)), ⟨11, by decide, TX11, 14, rfl⟩⟩
theorem lk_L_155 : xLink xG RL 155 0 yX12_halves 0 := ⟨Or.inl (xg 2032 (by decide +kernel) (by decide +kernel)), (xg 2033 (by decide +kernel) (by decide +kernel)), (xg 2034 (by decide +kernel) (by decide +kernel)), (xg 141 (by decide +kernel) (by decide +kernel)), ⟨12, by decide, TX12, 29, rfl⟩⟩
theorem lk_L_161 : xLink xG RL 161 0 yX11_cuts 0 := ⟨Or.inl (xg 1360 (by decide +kernel) (by decide +kernel)), (xg 1361 (by decide +kernel) (by decide +kernel)), (xg 1362 (by decide +kernel) (by decide +kernel)), (xg 128 (by decide +kernel) (by decide +kernel)), ⟨11, by decide, TX11, 14, rfl⟩⟩
theorem lk_L_164 : xLink xG RL 164 0 yX12_cuts 0 := ⟨Or.inl (xg 2040 (by decide +kernel) (by decide +kernel)), (xg 2041 (by decide +kernel) (by decide +kernel)), (xg 2042 (by decide +kernel) (by decide +kernel)), (xg 141 (by decide +kernel) (by decide +kernel)), ⟨12, by decide, TX12, 29, rfl⟩⟩
theorem lk_L_165 : xLink xG RL 165 0 yX11_look 0 := ⟨Or.inl (xg 1372 (by decide +kernel) (by decide +kernel)), (xg 1373 (by decide +kernel) (by decide +kernel)), (xg 1374 (by decide +kernel) (by decide +kernel)), (xg 128 (by decide +kernel) (by decide +kernel)), ⟨11, by decide, TX11, 14, rfl⟩⟩
theorem lk_L_168 : xLink xG RL 168 0 yX12_look 0 := ⟨Or.inl (xg 2052 (by decide +kernel) (by decide +kernel)), (xg 2053 (by decide +kernel) (by decide +kernel)), (xg 2054 (by decide +kernel) (by decide +kernel)), (xg 141 (by decide +kernel) (by decide +kernel)), ⟨12, by decide, TX12, 29, rfl⟩⟩
theorem lk_L_174 : xLink xG RL 174 0 yX12_lives 1 := ⟨Or.inl (xg 2117 (by decide +kernel) (by decide +kernel)), (xg 2118 (by decide +kernel) (by decide +kernel)), (xg 2119 (by decide +kernel) (by decide +kernel)), (xg 141 (by decide +kernel) (by decide +kernel)), ⟨12, by decide, TX12, 29, rfl⟩⟩
theorem lk_L_175 : xLink xG RL 175 0 yX12_thrown 0 := ⟨Or.inl (xg 1507 (by decide +kernel) (by decide +kernel)), (xg 1508 (by decide +kernel) (by decide +kernel)), (xg 1509 (by decide +kernel) (by decide +kernel)), (xg 141 (by decide +kernel) (by decide +kernel)), ⟨12, by decide, TX12, 29, rfl⟩⟩
theorem lk_L_178 : xLink xG RL 178 0 yX11_ages 3 := ⟨Or.inl (xg 1391 (by decide +kernel) (by decide +kernel)), (xg 1392 (by decide +kernel) (by decide +kernel)), (xg 1393 (by decide +kernel) (by decide +kernel)), (xg 128 (by decide +kernel) (by decide +kernel)), ⟨11, by decide, TX11, 14, rfl⟩⟩
theorem lk_L_181 : xLink xG RL 181 0 yX12_ages 3 := ⟨Or.inl (xg 2137 (by decide +kernel) (by decide +kernel)), (xg 2138 (by decide +kernel) (by decide +kernel)), (xg 2139 (by decide +kernel) (by decide +kernel)), (xg 141 (by decide +kernel) (by decide +kernel)), ⟨12, by decide, TX12, 29, rfl⟩⟩
theorem lk_L_187 : xLink xG RL 187 0 yX11_count 1 := ⟨Or.inl (xg 1425 (by decide +kernel) (by decide +kernel)), (xg 1426 (by decide +kernel) (by decide +kernel)), (xg 1427 (by decide +kernel) (by decide +kernel)), (xg 128 (by decide +kernel) (by decide +kernel)), ⟨11, by decide, TX11, 14, rfl⟩⟩
theorem lk_L_190 : xLink xG RL 190 0 yX12_count 1 := ⟨Or.inl (xg 2157 (by decide +kernel) (by decide +kernel)), (xg 2158 (by decide +kernel) (by decide +kernel)), (xg 2159 (by decide +kernel) (by decide +kernel)), (xg 141 (by decide +kernel) (by decide +kernel)), ⟨12, by decide, TX12, 29, rfl⟩⟩
set_option maxRecDepth 100000 in
theorem wx_L_law_23 {mcT msT : Nat} (X : xCtx p R S0 m ag c0 D cA A0 sA 7 cL_law RL lw_tbl mcT msT) (hS : xScr b L scr S0 A0 sA) (hThr : xThr A0 S0 S0.heap) (hst : l.stackTraces = false) (hroom : 237 + 2 ≤ R.frames ∧ 60 * (237 + 2) ≤ R.locals) {rr : Int32 × xM} (hE : ∀ (pc bc bs : Nat) (ls : xLs), decode cL_law pc = .ok (.ireturn, 1) → xWx p l e R S0 m ag below meth c0 D cA A0 sA M0 ad0 7 Z mcT msT pc bc bs ls [.inl rr.1] rr.2) (fu : Nat) : ∀ (n : Nat) (x1 : Option Nat) (x2 : Option Nat) (x3 : Option Nat) (x4 : Int32) (M : xM), L_L_law_23 fu scr L n x1 x2 x3 x4 M = some rr → xWx p l e R S0 m ag below meth c0 D cA A0 sA M0 ad0 7 Z mcT msT 23 n (10 * n) [(0, .inr (.inr (30, some 5))), (1, .inr (.inr (11, x1))), (2, .inr (.inr (12, x2))), (3, .inr (.inr (21, x3))), (4, .inl x4)] [] M := by
  intro n
  induction n with
  | zero => intro x1 x2 x3 x4 M h; cases h
  | succ n ih =>
    intro x1 x2 x3 x4 M h
    by_cases hn : n + 1 ≤ mcT ∧ 10 * (n + 1) ≤ msT
    · obtain ⟨x1', x2', x3', x4', x5', x6', x7', x8', x9', x10', x11', x12'⟩ := id X
      have X1 : xCtx p R S0 m ag c0 D cA A0 sA 7 cL_law RL lw_tbl (mcT - n) (msT - 10 * n) := ⟨x1', x2', x3', x4', x5', x6', x7', by omega, by omega, x10', x11', x12'⟩
      have hE1 : ∀ (pc bc bs : Nat) (ls : xLs), decode cL_law pc = .ok (.ireturn, 1) → xWx p l e R S0 m ag below meth c0 D cA A0 sA M0 ad0 7 Z (mcT - n) (msT - 10 * n) pc bc bs ls [.inl rr.1] rr.2 := fun pc bc bs ls hd => xWx_bud (hE pc bc bs ls hd) (by omega) (by omega)
      have hT : ∀ w ∈ xG, w ∈ lw_tbl := fun w hw => (List.mem_filter.mp hw).1
      refine xWx_bud (mcT := mcT - n) (msT := msT - 10 * n) (bc := 1) (bs := 10) ?_ (by omega) (by omega)
      rw [← q_L_law_23 fu scr L n x1 x2 x3 x4 M] at h
      refine xrunL_sound (nst := 0) (isInit := false) (kd := kdL) X1 hS (xcls_mono hT xclsG) (xpool_mono hT plL) (fun z => by cases z) (fun idx v hf => xkoE_mono hT (koL_ok _ (xfind_mem hf))) (xents (ca := _) ?_) (fun x M' pc bc bs ls hr hd => by
        obtain ⟨_, hr⟩ := gd_some hr
        have e1 : (x, M') = rr := Option.some.inj hr
        subst e1
        exact hE1 pc bc bs ls hd) (fun M' pc bc bs ls hr hd => by cases hr) (xcuts (cu := _) ?_) pr_L_law.1 pr_L_law.2 _ _ _ _ _ _ _ _ (xat_ok pr_L_law.1 pr_L_law.2).1 (xat_ok pr_L_law.1 pr_L_law.2).2.1 (xat_ok pr_L_law.1 pr_L_law.2).2.2 h
      · exact (List.forall_mem_cons.mpr ⟨(xent_met X1 (ci := 11) hT cd_X11_feed lk_L_21 rfl (by decide) rfl (by decide +kernel) (fun z => absurd z (by decide)) (hw_X11_feed l D cA sA fu 0) (fun _ => ⟨by decide, fun _ => ⟨TX11, 14, rfl⟩⟩) (by constructor <;> omega) (by decide)), (List.forall_mem_cons.mpr ⟨(xent_met X1 (ci := 12) hT cd_X12_feed lk_L_25 rfl (by decide) rfl (by decide +kernel) (fun z => absurd z (by decide)) (hw_X12_feed l D cA sA fu 0) (fun _ => ⟨by decide, fun _ => ⟨TX12, 29, rfl⟩⟩) (by constructor <;> omega) (by decide)), (List.forall_mem_cons.mpr ⟨(xent_met X1 (ci := 11) hT cd_X11_store lk_L_26 rfl (by decide) rfl (by decide +kernel) (fun z => absurd z (by decide)) (hw_X11_store l D cA sA fu 0) (fun _ => ⟨by decide, fun _ => ⟨TX11, 14, rfl⟩⟩) (by constructor <;> omega) (by decide)), (List.forall_mem_cons.mpr ⟨(xent_met X1 (ci := 12) hT cd_X12_store lk_L_30 rfl (by decide) rfl (by decide +kernel) (fun z => absurd z (by decide)) (hw_X12_store l D cA sA fu 0) (fun _ => ⟨by decide, fun _ => ⟨TX12, 29, rfl⟩⟩) (by constructor <;> omega) (by decide)), (List.forall_mem_cons.mpr ⟨(xent_met X1 (ci := 11) hT cd_X11_work lk_L_31 rfl (by decide) rfl (by decide +kernel) (fun z => absurd z (by decide)) (hw_X11_work l D cA sA fu 0) (fun _ => ⟨by decide, fun _ => ⟨TX11, 14, rfl⟩⟩) (by constructor <;> omega) (by decide)), (List.forall_mem_cons.mpr ⟨(xent_met X1 (ci := 12) hT cd_X12_work lk_L_34 rfl (by decide) rfl (by decide +kernel) (fun z => absurd z (by decide)) (hw_X12_work l D cA sA fu 0) (fun _ => ⟨by decide, fun _ => ⟨TX12, 29, rfl⟩⟩) (by constructor <;> omega) (by decide)), (List.forall_mem_cons.mpr ⟨(xent_met X1 (ci := 11) hT cd_X11_slot lk_L_35 rfl (by decide) rfl (by decide +kernel) (fun z => absurd z (by decide)) (hw_X11_slot l D cA sA fu 0) (fun _ => ⟨by decide, fun _ => ⟨TX11, 14, rfl⟩⟩) (by constructor <;> omega) (by decide)), (List.forall_mem_cons.mpr ⟨(xent_met X1 (ci := 12) hT cd_X12_slot lk_L_39 rfl (by decide) rfl (by decide +kernel) (fun z => absurd z (by decide)) (hw_X12_slot l D cA sA fu 0) (fun _ => ⟨by decide, fun _ => ⟨TX12, 29, rfl⟩⟩) (by constructor <;> omega) (by decide)), (List.forall_mem_cons.mpr ⟨(xent_met X1 (ci := 11) hT cd_X11_block lk_L_40 rfl (by decide) rfl (by decide +kernel) (fun z => absurd z (by decide)) (hw_X11_block l D cA sA fu 0) (fun _ => ⟨by decide, fun _ => ⟨TX11, 14, rfl⟩⟩) (by constructor <;> omega) (by decide)), (List.forall_mem_cons.mpr ⟨(xent_met X1 (ci := 12) hT cd_X12_block lk_L_43 rfl (by decide) rfl (by decide +kernel) (fun z => absurd z (by decide)) (hw_X12_block l D cA sA fu 0) (fun _ => ⟨by decide, fun _ => ⟨TX12, 29, rfl⟩⟩) (by constructor <;> omega) (by decide)), (List.forall_mem_cons.mpr ⟨(xent_met X1 (ci := 11) hT cd_X11_file lk_L_44 rfl (by decide) rfl (by decide +kernel) (fun z => absurd z (by decide)) (hw_X11_file l D cA sA fu 0) (fun _ => ⟨by decide, fun _ => ⟨TX11, 14, rfl⟩⟩) (by constructor <;> omega) (by decide)), (List.forall_mem_cons.mpr ⟨(xent_met X1 (ci := 12) hT cd_X12_file lk_L_47 rfl (by decide) rfl (by decide +kernel) (fun z => absurd z (by decide)) (hw_X12_file l D cA sA fu 0) (fun _ => ⟨by decide, fun _ => ⟨TX12, 29, rfl⟩⟩) (by constructor <;> omega) (by decide)), (List.forall_mem_cons.mpr ⟨(xent_met X1 (ci := 11) hT cd_X11_write lk_L_48 rfl (by decide) rfl (by decide +kernel) (fun z => absurd z (by decide)) (hw_X11_write l D cA sA fu 0) (fun _ => ⟨by decide, fun _ => ⟨TX11, 14, rfl⟩⟩) (by constructor <;> omega) (by decide)), (List.forall_mem_cons.mpr ⟨(xent_met X1 (ci := 12) hT cd_X12_write lk_L_52 rfl (by decide) rfl (by decide +kernel) (fun z => absurd z (by decide)) (hw_X12_write l D cA sA fu 0) (fun _ => ⟨by decide, fun _ => ⟨TX12, 29, rfl⟩⟩) (by constructor <;> omega) (by decide)), (List.forall_mem_cons.mpr ⟨(xent_met X1 (ci := 11) hT cd_X11_remove lk_L_53 rfl (by decide) rfl (by decide +kernel) (fun z => absurd z (by decide)) (hw_X11_remove l D cA sA fu 0) (fun _ => ⟨by decide, fun _ => ⟨TX11, 14, rfl⟩⟩) (by constructor <;> omega) (by decide)), (List.forall_mem_cons.mpr ⟨(xent_met X1 (ci := 12) hT cd_X12_remove lk_L_56 rfl (by decide) rfl (by decide +kernel) (fun z => absurd z (by decide)) (hw_X12_remove l D cA sA fu 0) (fun _ => ⟨by decide, fun _ => ⟨TX12, 29, rfl⟩⟩) (by constructor <;> omega) (by decide)), (List.forall_mem_cons.mpr ⟨(xent_met X1 (ci := 11) hT cd_X11_open lk_L_57 rfl (by decide) rfl (by decide +kernel) (fun z => absurd z (by decide)) (hw_X11_open l D cA sA fu 0) (fun _ => ⟨by decide, fun _ => ⟨TX11, 14, rfl⟩⟩) (by constructor <;> omega) (by decide)), (List.forall_mem_cons.mpr ⟨(xent_met X1 (ci := 12) hT cd_X12_open lk_L_61 rfl (by decide) rfl (by decide +kernel) (fun z => absurd z (by decide)) (hw_X12_open l D cA sA fu 0) (fun _ => ⟨by decide, fun _ => ⟨TX12, 29, rfl⟩⟩) (by constructor <;> omega) (by decide)), (List.forall_mem_cons.mpr ⟨(xent_met X1 (ci := 11) hT cd_X11_close lk_L_62 rfl (by decide) rfl (by decide +kernel) (fun z => absurd z (by decide)) (hw_X11_close l D cA sA fu 0) (fun _ => ⟨by decide, fun _ => ⟨TX11, 14, rfl⟩⟩) (by constructor <;> omega) (by decide)), (List.forall_mem_cons.mpr ⟨(xent_met X1 (ci := 12) hT cd_X12_close lk_L_65 rfl (by decide) rfl (by decide +kernel) (fun z => absurd z (by decide)) (hw_X12_close l D cA sA fu 0) (fun _ => ⟨by decide, fun _ => ⟨TX12, 29, rfl⟩⟩) (by constructor <;> omega) (by decide)), (List.forall_mem_cons.mpr ⟨(xent_met X1 (ci := 11) hT cd_X11_commit lk_L_66 rfl (by decide) rfl (by decide +kernel) (fun z => absurd z (by decide)) (hw_X11_commit l D cA sA fu 0) (fun _ => ⟨by decide, fun _ => ⟨TX11, 14, rfl⟩⟩) (by constructor <;> omega) (by decide)), (List.forall_mem_cons.mpr ⟨(xent_met X1 (ci := 12) hT cd_X12_commit lk_L_69 rfl (by decide) rfl (by decide +kernel) (fun z => absurd z (by decide)) (hw_X12_commit l D cA sA fu 0) (fun _ => ⟨by decide, fun _ => ⟨TX12, 29, rfl⟩⟩) (by constructor <;> omega) (by decide)), (List.forall_mem_cons.mpr ⟨(xent_met X1 (ci := 11) hT cd_X11_collect lk_L_70 rfl (by decide) rfl (by decide +kernel) (fun z => absurd z (by decide)) (hw_X11_collect l D cA sA fu 0) (fun _ => ⟨by decide, fun _ => ⟨TX11, 14, rfl⟩⟩) (by constructor <;> omega) (by decide)), (List.forall_mem_cons.mpr ⟨(xent_met X1 (ci := 12) hT cd_X12_collect lk_L_73 rfl (by decide) rfl (by decide +kernel) (fun z => absurd z (by decide)) (hw_X12_collect l D cA sA fu 0) (fun _ => ⟨by decide, fun _ => ⟨TX12, 29, rfl⟩⟩) (by constructor <;> omega) (by decide)), (List.forall_mem_cons.mpr ⟨(xent_met X1 (ci := 11) hT cd_X11_cut lk_L_74 rfl (by decide) rfl (by decide +kernel) (fun z => absurd z (by decide)) (hw_X11_cut l D cA sA fu 0) (fun _ => ⟨by decide, fun _ => ⟨TX11, 14, rfl⟩⟩) (by constructor <;> omega) (by decide)), (List.forall_mem_cons.mpr ⟨(xent_met X1 (ci := 12) hT cd_X12_cut lk_L_77 rfl (by decide) rfl (by decide +kernel) (fun z => absurd z (by decide)) (hw_X12_cut l D cA sA fu 0) (fun _ => ⟨by decide, fun _ => ⟨TX12, 29, rfl⟩⟩) (by constructor <;> omega) (by decide)), (List.forall_mem_cons.mpr ⟨(xent_met X1 (ci := 11) hT cd_X11_mount lk_L_78 rfl (by decide) rfl (by decide +kernel) (fun z => absurd z (by decide)) (hw_X11_mount l D cA sA fu 0) (fun _ => ⟨by decide, fun _ => ⟨TX11, 14, rfl⟩⟩) (by constructor <;> omega) (by decide)), (List.forall_mem_cons.mpr ⟨(xent_met X1 (ci := 12) hT cd_X12_mount lk_L_81 rfl (by decide) rfl (by decide +kernel) (fun z => absurd z (by decide)) (hw_X12_mount l D cA sA fu 0) (fun _ => ⟨by decide, fun _ => ⟨TX12, 29, rfl⟩⟩) (by constructor <;> omega) (by decide)), (List.forall_mem_cons.mpr ⟨(xent_met X1 (ci := 11) hT cd_X11_judged lk_L_82 rfl (by decide) rfl (by decide +kernel) (fun z => absurd z (by decide)) (hw_X11_judged l D cA sA fu 0) (fun _ => ⟨by decide, fun _ => ⟨TX11, 14, rfl⟩⟩) (by constructor <;> omega) (by decide)), (List.forall_mem_cons.mpr ⟨(xent_met X1 (ci := 12) hT cd_X12_judged lk_L_85 rfl (by decide) rfl (by decide +kernel) (fun z => absurd z (by decide)) (hw_X12_judged l D cA sA fu 0) (fun _ => ⟨by decide, fun _ => ⟨TX12, 29, rfl⟩⟩) (by constructor <;> omega) (by decide)), (List.forall_mem_cons.mpr ⟨(xent_met X1 (ci := 11) hT cd_X11_says lk_L_86 rfl (by decide) rfl (by decide +kernel) (fun z => absurd z (by decide)) (hw_X11_says l D cA sA fu 0) (fun _ => ⟨by decide, fun _ => ⟨TX11, 14, rfl⟩⟩) (by constructor <;> omega) (by decide)), (List.forall_mem_cons.mpr ⟨(xent_met X1 (ci := 12) hT cd_X12_says lk_L_89 rfl (by decide) rfl (by decide +kernel) (fun z => absurd z (by decide)) (hw_X12_says l D cA sA fu 0) (fun _ => ⟨by decide, fun _ => ⟨TX12, 29, rfl⟩⟩) (by constructor <;> omega) (by decide)), (List.forall_mem_cons.mpr ⟨(xent_met X1 (ci := 11) hT cd_X11_may lk_L_90 rfl (by decide) rfl (by decide +kernel) (fun z => absurd z (by decide)) (hw_X11_may l D cA sA fu 0) (fun _ => ⟨by decide, fun _ => ⟨TX11, 14, rfl⟩⟩) (by constructor <;> omega) (by decide)), (List.forall_mem_cons.mpr ⟨(xent_met X1 (ci := 12) hT cd_X12_may lk_L_94 rfl (by decide) rfl (by decide +kernel) (fun z => absurd z (by decide)) (hw_X12_may l D cA sA fu 0) (fun _ => ⟨by decide, fun _ => ⟨TX12, 29, rfl⟩⟩) (by constructor <;> omega) (by decide)), (List.forall_mem_cons.mpr ⟨(xent_met X1 (ci := 11) hT cd_X11_spare lk_L_95 rfl (by decide) rfl (by decide +kernel) (fun z => absurd z (by decide)) (hw_X11_spare l D cA sA fu 0) (fun _ => ⟨by decide, fun _ => ⟨TX11, 14, rfl⟩⟩) (by constructor <;> omega) (by decide)), (List.forall_mem_cons.mpr ⟨(xent_met X1 (ci := 12) hT cd_X12_spare lk_L_98 rfl (by decide) rfl (by decide +kernel) (fun z => absurd z (by decide)) (hw_X12_spare l D cA sA fu 0) (fun _ => ⟨by decide, fun _ => ⟨TX12, 29, rfl⟩⟩) (by constructor <;> omega) (by decide)), (List.forall_mem_cons.mpr ⟨(xent_met X1 (ci := 11) hT cd_X11_pick lk_L_99 rfl (by decide) rfl (by decide +kernel) (fun z => absurd z (by decide)) (hw_X11_pick l D cA sA fu 0) (fun _ => ⟨by decide, fun _ => ⟨TX11, 14, rfl⟩⟩) (by constructor <;> omega) (by decide)), (List.forall_mem_cons.mpr ⟨(xent_met X1 (ci := 12) hT cd_X12_pick lk_L_102 rfl (by decide) rfl (by decide +kernel) (fun z => absurd z (by decide)) (hw_X12_pick l D cA sA fu 0) (fun _ => ⟨by decide, fun _ => ⟨TX12, 29, rfl⟩⟩) (by constructor <;> omega) (by decide)), (List.forall_mem_cons.mpr ⟨(xent_met X1 (ci := 11) hT cd_X11_gain lk_L_103 rfl (by decide) rfl (by decide +kernel) (fun z => absurd z (by decide)) (hw_X11_gain l D cA sA fu 0) (fun _ => ⟨by decide, fun _ => ⟨TX11, 14, rfl⟩⟩) (by constructor <;> omega) (by decide)), (List.forall_mem_cons.mpr ⟨(xent_met X1 (ci := 12) hT cd_X12_gain lk_L_106 rfl (by decide) rfl (by decide +kernel) (fun z => absurd z (by decide)) (hw_X12_gain l D cA sA fu 0) (fun _ => ⟨by decide, fun _ => ⟨TX12, 29, rfl⟩⟩) (by constructor <;> omega) (by decide)), (List.forall_mem_cons.mpr ⟨(xent_met X1 (ci := 11) hT cd_X11_rounds lk_L_107 rfl (by decide) rfl (by decide +kernel) (fun z => absurd z (by decide)) (hw_X11_rounds l D cA sA fu 0) (fun _ => ⟨by decide, fun _ => ⟨TX11, 14, rfl⟩⟩) (by constructor <;> omega) (by decide)), (List.forall_mem_cons.mpr ⟨(xent_met X1 (ci := 12) hT cd_X12_rounds lk_L_110 rfl (by decide) rfl (by decide +kernel) (fun z => absurd z (by decide)) (hw_X12_rounds l D cA sA fu 0) (fun _ => ⟨by decide, fun _ => ⟨TX12, 29, rfl⟩⟩) (by constructor <;> omega) (by decide)), (List.forall_mem_cons.mpr ⟨(xent_met X1 (ci := 11) hT cd_X11_found lk_L_111 rfl (by decide) rfl (by decide +kernel) (fun z => absurd z (by decide)) (hw_X11_found l D cA sA fu 0) (fun _ => ⟨by decide, fun _ => ⟨TX11, 14, rfl⟩⟩) (by constructor <;> omega) (by decide)), (List.forall_mem_cons.mpr ⟨(xent_met X1 (ci := 12) hT cd_X12_found lk_L_114 rfl (by decide) rfl (by decide +kernel) (fun z => absurd z (by decide)) (hw_X12_found l D cA sA fu 0) (fun _ => ⟨by decide, fun _ => ⟨TX12, 29, rfl⟩⟩) (by constructor <;> omega) (by decide)), (List.forall_mem_cons.mpr ⟨(xent_met X1 (ci := 11) hT cd_X11_agrees lk_L_115 rfl (by decide) rfl (by decide +kernel) (fun z => absurd z (by decide)) (hw_X11_agrees l D cA sA fu 0) (fun _ => ⟨by decide, fun _ => ⟨TX11, 14, rfl⟩⟩) (by constructor <;> omega) (by decide)), (List.forall_mem_cons.mpr ⟨(xent_met X1 (ci := 12) hT cd_X12_agrees lk_L_119 rfl (by decide) rfl (by decide +kernel) (fun z => absurd z (by decide)) (hw_X12_agrees l D cA sA fu 0) (fun _ => ⟨by decide, fun _ => ⟨TX12, 29, rfl⟩⟩) (by constructor <;> omega) (by decide)), (List.forall_mem_cons.mpr ⟨(xent_met X1 (ci := 11) hT cd_X11_loses lk_L_120 rfl (by decide) rfl (by decide +kernel) (fun z => absurd z (by decide)) (hw_X11_loses l D cA sA fu 0) (fun _ => ⟨by decide, fun _ => ⟨TX11, 14, rfl⟩⟩) (by constructor <;> omega) (by decide)), (List.forall_mem_cons.mpr ⟨(xent_met X1 (ci := 12) hT cd_X12_loses lk_L_123 rfl (by decide) rfl (by decide +kernel) (fun z => absurd z (by decide)) (hw_X12_loses l D cA sA fu 0) (fun _ => ⟨by decide, fun _ => ⟨TX12, 29, rfl⟩⟩) (by constructor <;> omega) (by decide)), (List.forall_mem_cons.mpr ⟨(xent_met X1 (ci := 11) hT cd_X11_wear lk_L_124 rfl (by decide) rfl (by decide +kernel) (fun z => absurd z (by decide)) (hw_X11_wear l D cA sA fu 0) (fun _ => ⟨by decide, fun _ => ⟨TX11, 14, rfl⟩⟩) (by constructor <;> omega) (by decide)), (List.forall_mem_cons.mpr ⟨(xent_met X1 (ci := 12) hT cd_X12_wear lk_L_127 rfl (by decide) rfl (by decide +kernel) (fun z => absurd z (by decide)) (hw_X12_wear l D cA sA fu 0) (fun _ => ⟨by decide, fun _ => ⟨TX12, 29, rfl⟩⟩) (by constructor <;> omega) (by decide)), (List.forall_mem_cons.mpr ⟨(xent_met X1 (ci := 11) hT cd_X11_oldest lk_L_128 rfl (by decide) rfl (by decide +kernel) (fun z => absurd z (by decide)) (hw_X11_oldest l D cA sA fu 0) (fun _ => ⟨by decide, fun _ => ⟨TX11, 14, rfl⟩⟩) (by constructor <;> omega) (by decide)), (List.forall_mem_cons.mpr ⟨(xent_met X1 (ci := 12) hT cd_X12_oldest lk_L_131 rfl (by decide) rfl (by decide +kernel) (fun z => absurd z (by decide)) (hw_X12_oldest l D cA sA fu 0) (fun _ => ⟨by decide, fun _ => ⟨TX12, 29, rfl⟩⟩) (by constructor <;> omega) (by decide)), (List.forall_mem_cons.mpr ⟨(xent_met X1 (ci := 11) hT cd_X11_hot lk_L_132 rfl (by decide) rfl (by decide +kernel) (fun z => absurd z (by decide)) (hw_X11_hot l D cA sA fu 0) (fun _ => ⟨by decide, fun _ => ⟨TX11, 14, rfl⟩⟩) (by constructor <;> omega) (by decide)), (List.forall_mem_cons.mpr ⟨(xent_met X1 (ci := 12) hT cd_X12_hot lk_L_135 rfl (by decide) rfl (by decide +kernel) (fun z => absurd z (by decide)) (hw_X12_hot l D cA sA fu 0) (fun _ => ⟨by decide, fun _ => ⟨TX12, 29, rfl⟩⟩) (by constructor <;> omega) (by decide)), (List.forall_mem_cons.mpr ⟨(xent_met X1 (ci := 11) hT cd_X11_copies lk_L_136 rfl (by decide) rfl (by decide +kernel) (fun z => absurd z (by decide)) (hw_X11_copies l D cA sA fu 0) (fun _ => ⟨by decide, fun _ => ⟨TX11, 14, rfl⟩⟩) (by constructor <;> omega) (by decide)), (List.forall_mem_cons.mpr ⟨(xent_met X1 (ci := 12) hT cd_X12_copies lk_L_139 rfl (by decide) rfl (by decide +kernel) (fun z => absurd z (by decide)) (hw_X12_copies l D cA sA fu 0) (fun _ => ⟨by decide, fun _ => ⟨TX12, 29, rfl⟩⟩) (by constructor <;> omega) (by decide)), (List.forall_mem_cons.mpr ⟨(xent_met X1 (ci := 11) hT cd_X11_chain lk_L_140 rfl (by decide) rfl (by decide +kernel) (fun z => absurd z (by decide)) (hw_X11_chain l D cA sA fu 0) (fun _ => ⟨by decide, fun _ => ⟨TX11, 14, rfl⟩⟩) (by constructor <;> omega) (by decide)), (List.forall_mem_cons.mpr ⟨(xent_met X1 (ci := 12) hT cd_X12_chain lk_L_143 rfl (by decide) rfl (by decide +kernel) (fun z => absurd z (by decide)) (hw_X12_chain l D cA sA fu 0) (fun _ => ⟨by decide, fun _ => ⟨TX12, 29, rfl⟩⟩) (by constructor <;> omega) (by decide)), (List.forall_mem_cons.mpr ⟨(xent_met X1 (ci := 11) hT cd_X11_after lk_L_144 rfl (by decide) rfl (by decide +kernel) (fun z => absurd z (by decide)) (hw_X11_after l D cA sA fu 0) (fun _ => ⟨by decide, fun _ => ⟨TX11, 14, rfl⟩⟩) (by constructor <;> omega) (by decide)), (List.forall_mem_cons.mpr ⟨(xent_met X1 (ci := 12) hT cd_X12_after lk_L_147 rfl (by decide) rfl (by decide +kernel) (fun z => absurd z (by decide)) (hw_X12_after l D cA sA fu 0) (fun _ => ⟨by decide, fun _ => ⟨TX12, 29, rfl⟩⟩) (by constructor <;> omega) (by decide)), (List.forall_mem_cons.mpr ⟨(xent_met X1 (ci := 11) hT cd_X11_ends lk_L_148 rfl (by decide) rfl (by decide +kernel) (fun z => absurd z (by decide)) (hw_X11_ends l D cA sA fu 0) (fun _ => ⟨by decide, fun _ => ⟨TX11, 14, rfl⟩⟩) (by constructor <;> omega) (by decide)), (List.forall_mem_cons.mpr ⟨(xent_met X1 (ci := 12) hT cd_X12_ends lk_L_151 rfl (by decide) rfl (by decide +kernel) (fun z => absurd z (by decide)) (hw_X12_ends l D cA sA fu 0) (fun _ => ⟨by decide, fun _ => ⟨TX12, 29, rfl⟩⟩) (by constructor <;> omega) (by decide)), (List.forall_mem_cons.mpr ⟨(xent_met X1 (ci := 11) hT cd_X11_halves lk_L_152 rfl (by decide) rfl (by decide +kernel) (fun z => absurd z (by decide)) (hw_X11_halves l D cA sA fu 0) (fun _ => ⟨by decide, fun _ => ⟨TX11, 14, rfl⟩⟩) (by constructor <;> omega) (by decide)), (List.forall_mem_cons.mpr ⟨(xent_met X1 (ci := 12) hT cd_X12_halves lk_L_155 rfl (by decide) rfl (by decide +kernel) (fun z => absurd z (by decide)) (hw_X12_halves l D cA sA fu 0) (fun _ => ⟨by decide, fun _ => ⟨TX12, 29, rfl⟩⟩) (by constructor <;> omega) (by decide)), (List.forall_mem_cons.mpr ⟨(xent_met X1 (ci := 11) hT cd_X11_cuts lk_L_161 rfl (by decide) rfl (by decide +kernel) (fun z => absurd z (by decide)) (hw_X11_cuts l D cA sA fu 0) (fun _ => ⟨by decide, fun _ => ⟨TX11, 14, rfl⟩⟩) (by constructor <;> omega) (by decide)), (List.forall_mem_cons.mpr ⟨(xent_met X1 (ci := 12) hT cd_X12_cuts lk_L_164 rfl (by decide) rfl (by decide +kernel) (fun z => absurd z (by decide)) (hw_X12_cuts l D cA sA fu 0) (fun _ => ⟨by decide, fun _ => ⟨TX12, 29, rfl⟩⟩) (by constructor <;> omega) (by decide)), (List.forall_mem_cons.mpr ⟨(xent_met X1 (ci := 11) hT cd_X11_look lk_L_165 rfl (by decide) rfl (by decide +kernel) (fun z => absurd z (by decide)) (hw_X11_look l D cA sA fu 0) (fun _ => ⟨by decide, fun _ => ⟨TX11, 14, rfl⟩⟩) (by constructor <;> omega) (by decide)), (List.forall_mem_cons.mpr ⟨(xent_met X1 (ci := 12) hT cd_X12_look lk_L_168 rfl (by decide) rfl (by decide +kernel) (fun z => absurd z (by decide)) (hw_X12_look l D cA sA fu 0) (fun _ => ⟨by decide, fun _ => ⟨TX12, 29, rfl⟩⟩) (by constructor <;> omega) (by decide)), (List.forall_mem_cons.mpr ⟨(xent_lives X1 hThr hst (fu := fu) rfl (by constructor <;> omega)), (List.forall_mem_cons.mpr ⟨(xent_met X1 (ci := 12) hT cd_X12_lives lk_L_174 rfl (by decide) rfl (by decide +kernel) (fun z => absurd z (by decide)) (hw_X12_lives l D cA sA fu 0) (fun _ => ⟨by decide, fun _ => ⟨TX12, 29, rfl⟩⟩) (by constructor <;> omega) (by decide)), (List.forall_mem_cons.mpr ⟨(xent_met X1 (ci := 12) hT cd_X12_thrown lk_L_175 rfl (by decide) rfl (by decide +kernel) (fun z => absurd z (by decide)) (hw_X12_thrown l D cA sA fu 0) (fun _ => ⟨by decide, fun _ => ⟨TX12, 29, rfl⟩⟩) (by constructor <;> omega) (by decide)), (List.forall_mem_cons.mpr ⟨(xent_met X1 (ci := 11) hT cd_X11_ages lk_L_178 rfl (by decide) rfl (by decide +kernel) (fun z => absurd z (by decide)) (hw_X11_ages l D cA sA fu 0) (fun _ => ⟨by decide, fun _ => ⟨TX11, 14, rfl⟩⟩) (by constructor <;> omega) (by decide)), (List.forall_mem_cons.mpr ⟨(xent_met X1 (ci := 12) hT cd_X12_ages lk_L_181 rfl (by decide) rfl (by decide +kernel) (fun z => absurd z (by decide)) (hw_X12_ages l D cA sA fu 0) (fun _ => ⟨by decide, fun _ => ⟨TX12, 29, rfl⟩⟩) (by constructor <;> omega) (by decide)), (List.forall_mem_cons.mpr ⟨(xent_met X1 (ci := 11) hT cd_X11_count lk_L_187 rfl (by decide) rfl (by decide +kernel) (fun z => absurd z (by decide)) (hw_X11_count l D cA sA fu 0) (fun _ => ⟨by decide, fun _ => ⟨TX11, 14, rfl⟩⟩) (by constructor <;> omega) (by decide)), (List.forall_mem_cons.mpr ⟨(xent_met X1 (ci := 12) hT cd_X12_count lk_L_190 rfl (by decide) rfl (by decide +kernel) (fun z => absurd z (by decide)) (hw_X12_count l D cA sA fu 0) (fun _ => ⟨by decide, fun _ => ⟨TX12, 29, rfl⟩⟩) (by constructor <;> omega) (by decide)), (fun _ h => nomatch h)⟩)⟩)⟩)⟩)⟩)⟩)⟩)⟩)⟩)⟩)⟩)⟩)⟩)⟩)⟩)⟩)⟩)⟩)⟩)⟩)⟩)⟩)⟩)⟩)⟩)⟩)⟩)⟩)⟩)⟩)⟩)⟩)⟩)⟩)⟩)⟩)⟩)⟩)⟩)⟩)⟩)⟩)⟩)⟩)⟩)⟩)⟩)⟩)⟩)⟩)⟩)⟩)⟩)⟩)⟩)⟩)⟩)⟩)⟩)⟩)⟩)⟩)⟩)⟩)⟩)⟩)⟩)⟩)⟩)⟩)⟩)⟩)⟩)⟩)⟩)
      · refine (List.forall_mem_cons.mpr ⟨?_, (List.forall_mem_cons.mpr ⟨?_, (List.forall_mem_cons.mpr ⟨?_, (fun _ h => nomatch h)⟩)⟩)⟩)
        · intro bc bs ls st M h
          replace h := lS_some h
          obtain ⟨e0, h⟩ := h
          replace h := lR_some h
          obtain ⟨x1', e1, h⟩ := h
          replace h := lR_some h
          obtain ⟨x2', e2, h⟩ := h
          replace h := lR_some h
          obtain ⟨x3', e3, h⟩ := h
          replace h := lI_some h
          obtain ⟨x4', e4, h⟩ := h
          replace h := xe_some h
          obtain ⟨rfl, h⟩ := h
          exact xWx_ls (xWx_bud (ih x1' x2' x3' x4' M h) (by omega) (by omega)) (List.forall_mem_cons.mpr ⟨e0, (List.forall_mem_cons.mpr ⟨e1, (List.forall_mem_cons.mpr ⟨e2, (List.forall_mem_cons.mpr ⟨e3, (List.forall_mem_cons.mpr ⟨e4, (fun _ h => nomatch h)⟩)⟩)⟩)⟩)⟩)
        · intro bc bs ls st M h
          replace h := lS_some h
          obtain ⟨e0, h⟩ := h
          replace h := lR_some h
          obtain ⟨x1', e1, h⟩ := h
          replace h := lR_some h
          obtain ⟨x2', e2, h⟩ := h
          replace h := lR_some h
          obtain ⟨x3', e3, h⟩ := h
          replace h := lI_some h
          obtain ⟨x4', e4, h⟩ := h
          replace h := pI_some h
          obtain ⟨y0', st, rfl, h⟩ := h
          replace h := pI_some h
          obtain ⟨y1', st, rfl, h⟩ := h
          replace h := pI_some h
          obtain ⟨y2', st, rfl, h⟩ := h
          replace h := pI_some h
          obtain ⟨y3', st, rfl, h⟩ := h
          replace h := pR_some h
          obtain ⟨y4', st, rfl, h⟩ := h
          replace h := xe_some h
          obtain ⟨rfl, h⟩ := h
          exact xWx_ls (wx_L_law_1107 X1 hS hThr hst hroom hE1 fu _ (fun x1 x2 x3 x4 M hM bc bs => xWx_bud (ih x1 x2 x3 x4 M hM) (by omega) (by omega)) x1' x2' x3' x4' y0' y1' y2' y3' y4' M h bc bs) (List.forall_mem_cons.mpr ⟨e0, (List.forall_mem_cons.mpr ⟨e1, (List.forall_mem_cons.mpr ⟨e2, (List.forall_mem_cons.mpr ⟨e3, (List.forall_mem_cons.mpr ⟨e4, (fun _ h => nomatch h)⟩)⟩)⟩)⟩)⟩)
        · intro bc bs ls st M h
          replace h := lS_some h
          obtain ⟨e0, h⟩ := h
          replace h := lR_some h
          obtain ⟨x1', e1, h⟩ := h
          replace h := lR_some h
          obtain ⟨x2', e2, h⟩ := h
          replace h := lR_some h
          obtain ⟨x3', e3, h⟩ := h
          replace h := lI_some h
          obtain ⟨x4', e4, h⟩ := h
          replace h := pI_some h
          obtain ⟨y0', st, rfl, h⟩ := h
          replace h := pI_some h
          obtain ⟨y1', st, rfl, h⟩ := h
          replace h := pR_some h
          obtain ⟨y2', st, rfl, h⟩ := h
          replace h := xe_some h
          obtain ⟨rfl, h⟩ := h
          exact xWx_ls (wx_L_law_1303 X1 hS hThr hst hroom hE1 fu _ (fun x1 x2 x3 x4 M hM bc bs => xWx_bud (ih x1 x2 x3 x4 M hM) (by omega) (by omega)) x1' x2' x3' x4' y0' y1' y2' M h bc bs) (List.forall_mem_cons.mpr ⟨e0, (List.forall_mem_cons.mpr ⟨e1, (List.forall_mem_cons.mpr ⟨e2, (List.forall_mem_cons.mpr ⟨e3, (List.forall_mem_cons.mpr ⟨e4, (fun _ h => nomatch h)⟩)⟩)⟩)⟩)⟩)
    · intro ad H locs arr cells slots g1 g2 g3 g4 g5 g6 g7 g8
      omega
theorem lk_L_15 : xLink xG RL 15 1 yX11_init 0 := ⟨Or.inl (xg 155 (by decide +kernel) (by decide +kernel)), (xg 156 (by decide +kernel) (by decide +kernel)), (xg 128 (by decide +kernel) (by decide +kernel)), rfl⟩
theorem lk_L_18 : xLink xG RL 18 1 yX12_init 0 := ⟨Or.inl (xg 1521 (by decide +kernel) (by decide +kernel)), (xg 1522 (by decide +kernel) (by decide +kernel)), (xg 141 (by decide +kernel) (by decide +kernel)), rfl⟩
set_option maxRecDepth 100000 in
theorem wx_L_law {mcT msT : Nat} (X : xCtx p R S0 m ag c0 D cA A0 sA 7 cL_law RL lw_tbl mcT msT) (hS : xScr b L scr S0 A0 sA) (hThr : xThr A0 S0 S0.heap) (hst : l.stackTraces = false) (hroom : 237 + 2 ≤ R.frames ∧ 60 * (237 + 2) ≤ R.locals) {rr : Int32 × xM} (hE : ∀ (pc bc bs : Nat) (ls : xLs), decode cL_law pc = .ok (.ireturn, 1) → xWx p l e R S0 m ag below meth c0 D cA A0 sA M0 ad0 7 Z mcT msT pc bc bs ls [.inl rr.1] rr.2) (fu : Nat) (M : xM) (h : F_L_law fu scr L M = some rr) (hb1 : 157 + fu ≤ mcT) (hb2 : 23618 + 10 * fu ≤ msT) : xWx p l e R S0 m ag below meth c0 D cA A0 sA M0 ad0 7 Z mcT msT 0 (157 + fu) (23618 + 10 * fu) [(0, .inr (.inr (30, some 5)))] [] M := by
  obtain ⟨x1', x2', x3', x4', x5', x6', x7', x8', x9', x10', x11', x12'⟩ := id X
  have X1 : xCtx p R S0 m ag c0 D cA A0 sA 7 cL_law RL lw_tbl (mcT - fu) (msT - 10 * fu) := ⟨x1', x2', x3', x4', x5', x6', x7', by omega, by omega, x10', x11', x12'⟩
  have hE1 : ∀ (pc bc bs : Nat) (ls : xLs), decode cL_law pc = .ok (.ireturn, 1) → xWx p l e R S0 m ag below meth c0 D cA A0 sA M0 ad0 7 Z (mcT - fu) (msT - 10 * fu) pc bc bs ls [.inl rr.1] rr.2 := fun pc bc bs ls hd => xWx_bud (hE pc bc bs ls hd) (by omega) (by omega)
  have hT : ∀ w ∈ xG, w ∈ lw_tbl := fun w hw => (List.mem_filter.mp hw).1
  refine xWx_bud (mcT := mcT - fu) (msT := msT - 10 * fu) (bc := 157) (bs := 23618) ?_ (by omega) (by omega)
  rw [← q_L_law fu scr L M] at h
  refine xrunL_sound (nst := 0) (isInit := false) (kd := kdL) X1 hS (xcls_mono hT xclsG) (xpool_mono hT plL) (fun z => by cases z) (fun idx v hf => xkoE_mono hT (koL_ok _ (xfind_mem hf))) (xents (ca := _) ?_) (fun x M' pc bc bs ls hr hd => by
    obtain ⟨_, hr⟩ := gd_some hr
    have e1 : (x, M') = rr := Option.some.inj hr
    subst e1
    exact hE1 pc bc bs ls hd) (fun M' pc bc bs ls hr hd => by cases hr) (xcuts (cu := _) ?_) pr_L_law.1 pr_L_law.2 _ _ _ _ _ _ _ _ (xat_ok pr_L_law.1 pr_L_law.2).1 (xat_ok pr_L_law.1 pr_L_law.2).2.1 (xat_ok pr_L_law.1 pr_L_law.2).2.2 h
  · exact (List.forall_mem_cons.mpr ⟨(xent_met X1 (ci := 11) hT cd_X11_init lk_L_15 rfl (by decide) rfl (by decide +kernel) (fun _ => rfl) (hw_X11_init l D cA sA fu 1) (fun _ => ⟨by decide, fun z => absurd z (by decide)⟩) (by constructor <;> omega) (by decide)), (List.forall_mem_cons.mpr ⟨(xent_met X1 (ci := 12) hT cd_X12_init lk_L_18 rfl (by decide) rfl (by decide +kernel) (fun _ => rfl) (hw_X12_init l D cA sA fu 1) (fun _ => ⟨by decide, fun z => absurd z (by decide)⟩) (by constructor <;> omega) (by decide)), (fun _ h => nomatch h)⟩)⟩)
  · refine (List.forall_mem_cons.mpr ⟨?_, (fun _ h => nomatch h)⟩)
    · intro bc bs ls st M h
      replace h := lS_some h
      obtain ⟨e0, h⟩ := h
      replace h := lR_some h
      obtain ⟨x1', e1, h⟩ := h
      replace h := lR_some h
      obtain ⟨x2', e2, h⟩ := h
      replace h := lR_some h
      obtain ⟨x3', e3, h⟩ := h
      replace h := lI_some h
      obtain ⟨x4', e4, h⟩ := h
      replace h := xe_some h
      obtain ⟨rfl, h⟩ := h
      exact xWx_ls (xWx_bud (wx_L_law_23 X hS hThr hst hroom hE fu fu x1' x2' x3' x4' M h) (by omega) (by omega)) (List.forall_mem_cons.mpr ⟨e0, (List.forall_mem_cons.mpr ⟨e1, (List.forall_mem_cons.mpr ⟨e2, (List.forall_mem_cons.mpr ⟨e3, (List.forall_mem_cons.mpr ⟨e4, (fun _ h => nomatch h)⟩)⟩)⟩)⟩)⟩)
end XLAWC
