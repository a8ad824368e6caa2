/-! ===== lives: it throws ===== -/
abbrev nseN : String := "java/util/NoSuchElementException"
abbrev lvRx : ByteArray := prog_30_method_4_code
abbrev lvWs : List Cond := lx_at RX11 312 "java/util/NoSuchElementException" "java/lang/RuntimeException" 13 lvRx ["java/lang/Exception"]
theorem dRx_0 : decode lvRx 0 = .ok (.aload_n 0, 1) := by decide +kernel
theorem dRx_1 : decode lvRx 1 = .ok (.aload_n 1, 1) := by decide +kernel
theorem dRx_2 : decode lvRx 2 = .ok (.invokespecial 13, 3) := by decide +kernel
theorem dRx_5 : decode lvRx 5 = .ok (.return_, 1) := by decide +kernel
theorem lvWs_g : ((lvWs.filter goodWord).all fun w => decide (w ∈ lw_tbl)) = true := by decide +kernel
theorem lvWs_G : ∀ w ∈ lvWs.filter goodWord, w ∈ xG := fun w h => List.mem_filter.mpr ⟨of_decide_eq_true (List.all_eq_true.mp lvWs_g w h), (List.mem_filter.mp h).2⟩
/-- words that goodWord doesn't take -/
def lvNw : List Cond := [.castable "java/util/NoSuchElementException" "java/util/NoSuchElementException", .declares (Bundle.initS "java/lang/RuntimeException"), .declares (Bundle.initS "java/lang/Exception"), .declares (Bundle.initS "java/lang/Throwable")]
theorem lvNw_n : ((lvWs.filter (fun w => !goodWord w)).all fun w => decide (w ∈ lvNw)) = true := by decide +kernel
theorem lvNw_N : ∀ w ∈ lvWs.filter (fun w => !goodWord w), w ∈ lvNw := fun w h => of_decide_eq_true (List.all_eq_true.mp lvNw_n w h)
theorem lvNw_t : ∀ w ∈ lvNw, w.onTables = true := fun w hw => by
  simp only [lvNw, List.mem_cons, List.not_mem_nil, or_false] at hw
  rcases hw with rfl | rfl | rfl | rfl <;> rfl
theorem lvWs_v : (lvWs.all vx_ot) = true := by decide +kernel
theorem lvWs_ot : ∀ w ∈ Cond.classLink RX11 308 nseN :: Cond.initialized nseN :: lvWs, vx_ot w = true := fun w h => by
  rcases List.mem_cons.mp h with rfl | h
  · rfl
  rcases List.mem_cons.mp h with rfl | h
  · rfl
  exact List.all_eq_true.mp lvWs_v w h
/-- what a throw reads: two statics of Throwable, some words -/
def xThr (A : Nat → Prop) (U : State) (H : Heap) : Prop := vx_Zq Bundle.tN "UNASSIGNED_STACK" Bundle.steD A U H ∧ vx_Zq Bundle.tN "SUPPRESSED_SENTINEL" Bundle.listD A U H ∧ ∀ w ∈ lvNw, va_Nw w U
theorem xThr.warm {A : Nat → Prop} {s U : State} {H : Heap} (hW : s.WarmedH U.vm) (h : xThr A s H) : xThr A U H := ⟨vx_Zq.moved hW.alike h.1, vx_Zq.moved hW.alike h.2.1, fun w hw => by
  have h1 := h.2.2 w hw
  simp only [lvNw, List.mem_cons, List.not_mem_nil, or_false] at hw
  rcases hw with rfl | rfl | rfl | rfl <;> first | exact va_Nw.warmC hW h1 | exact va_Nw.warmD hW h1⟩
theorem xThr.same {A : Nat → Prop} {u U : State} {H : Heap} (hv : U.vm = u.vm) (h : xThr A u H) : xThr A U H := by
  have ha : u.vm.Alike U.vm := by rw [hv]; exact Vm.Alike.refl _
  exact ⟨vx_Zq.moved ha h.1, vx_Zq.moved ha h.2.1, fun w hw => va_Nw.same (lvNw_t w hw) hv.symm (h.2.2 w hw)⟩
theorem xThr.kept {A : Nat → Prop} {U : State} {H H1 : Heap} (h : xThr A U H) (hq : ∀ a : Nat, a < H.size → ¬ A a → H1[a]? = H[a]?) : xThr A U H1 := ⟨h.1.kept hq, h.2.1.kept hq, h.2.2⟩
theorem xThr.narrow {A B : Nat → Prop} {U : State} {H : Heap} (h : xThr A U H) (hAB : ∀ q, B q → A q) : xThr B U H := ⟨h.1.narrow hAB, h.2.1.narrow hAB, h.2.2⟩
/-- the world where it has thrown -/
def lvX (D : va_G) (cA : Nat → ClassId) (sA : Nat → Nat) (ad : Nat → Nat → Nat) (M : xM) (sz : Nat) (M' : xM) : String → State → State → Prop := fun E st t =>
  E = nseN ∧ (∃ ad' : Nat → Nat → Nat, (∀ q, ad' 30 q = sA q) ∧ (∀ cx sx, sx < gA M cx → sx < gA M' cx ∧ ad' cx sx = ad cx sx) ∧ xWd D cA ad' (xA ad M sz) M' t.heap) ∧ va_F (xA ad M sz) st t
def pX11_lv : List xE := [(0, 0, 1, 0, 0, [], .aload_n 0),
  (0, 1, 3, 0, 0, [], .getfield 48),
  (0, 4, 1, 0, 0, [], .iload_n 1),
  (0, 5, 3, 0, 0, [], .invokevirtual 269),
  (0, 8, 1, 0, 0, [], .istore_n 2),
  (0, 9, 1, 0, 0, [], .iload_n 2),
  (0, 10, 3, 24, 0, [], .ifCond .ge 14),
  (1, 13, 3, 0, 0, [], .new 308),
  (0, 16, 1, 0, 0, [], .dup),
  (0, 17, 3, 0, 0, [], .ldc_w 310),
  (0, 20, 3, 0, 0, [], .invokespecial 312),
  (0, 23, 1, 0, 0, [], .athrow),
  (0, 24, 1, 0, 0, [], .iload_n 2),
  (0, 25, 1, 0, 0, [], .ireturn)]
def rtLv (v : Option xV) (M : xM) : Option (Int32 × xM) := match v with
  | some (.inl x) => gd (decide (0 ≤ x)) (some (x, M))
  | _ => none
def cuLv (bc bs : Nat) (ls : xLs) (st : List xV) (M : xM) : Option (Int32 × xM) := match Nat.beq bc 1 && Nat.beq bs 6 with
  | true => lI ls 2 fun x => xe st (gd (decide (x < 0)) (some (x, M)))
  | false => none
def F_X11_lv (fu : Nat) (s : Nat) (x1 : Int32) (M : xM) : Option (Int32 × xM) :=
  (gR M 11 s 6).bind fun a_1 =>
  (F_X2_slotOfLive fu a_1 x1 M).bind fun p_2 =>
  if 0 ≤ p_2.1 then gd (decide (0 ≤ p_2.1)) (some (p_2.1, p_2.2)) else gd (decide (p_2.1 < 0)) (some (p_2.1, p_2.2))
set_option maxRecDepth 100000 in
theorem q_X11_lv (fu : Nat) (s : Nat) (x1 : Int32) (M : xM) : xrun pX11_lv flX11 koX11 nwX11 [(269, 2, 0, 0, w_X2_slotOfLive fu)] [(13, cuLv)] rtLv 16 (xat 0 pX11_lv) 1 6 [(0, .inr (.inr (11, some s))), (1, .inl x1)] [] M = F_X11_lv fu s x1 M := rfl
theorem lv_is {fu s : Nat} {x1 : Int32} {M : xM} {d : Nat} {rr : Int32 × xM} (h1 : gR M 11 s 6 = some d) (h2 : F_X2_slotOfLive fu d x1 M = some rr) : F_X11_lv fu s x1 M = some rr := by
  unfold F_X11_lv
  rw [h1]
  simp only [Option.bind_some]
  rw [h2]
  simp only [Option.bind_some]
  by_cases c : 0 ≤ rr.1
  · rw [if_pos c, decide_eq_true c]; rfl
  · rw [if_neg c, decide_eq_true (Int32.not_le.mp c)]; rfl
theorem pr_X11_lv : (∀ e ∈ pX11_lv, xrow cX11_lives 3 kdX11 flX11 0 false RX11 e) ∧ xnext pX11_lv = true := xrows (by decide +kernel)
theorem dX11_lives_13 : decode cX11_lives 13 = .ok (.new 308, 3) := by decide +kernel
theorem dX11_lives_16 : decode cX11_lives 16 = .ok (.dup, 1) := by decide +kernel
theorem dX11_lives_17 : decode cX11_lives 17 = .ok (.ldc_w 310, 3) := by decide +kernel
theorem dX11_lives_20 : decode cX11_lives 20 = .ok (.invokespecial 312, 3) := by decide +kernel
theorem dX11_lives_23 : decode cX11_lives 23 = .ok (.athrow, 1) := by decide +kernel
theorem cd_X11_lives : Cond.code yX11_lives cX11_lives 3 (some .int) ∈ xG := (xg 1441 (by decide +kernel) (by decide +kernel))
theorem xWd.keptL {D : va_G} {cA : Nat → ClassId} {ad : Nat → Nat → Nat} {A : Nat → Prop} {M : xM} {H H1 : Heap} (h : xWd D cA ad A M H) (hq : ∀ q : Nat, q < H.size → H1[q]? = H[q]?) : xWd D cA ad A M H1 :=
  ⟨fun c s hs => ⟨(h.1 c s hs).1, (h.1 c s hs).2.1.kept (hq _ (h.1 c s hs).2.1.lt), (h.1 c s hs).2.2⟩, h.2⟩
set_option maxHeartbeats 4000000 in
/-- FlashNodes.lives: it answers, or throws -/
theorem lv_met (l : Launch) (hst : l.stackTraces = false) (D : va_G) (cA : Nat → ClassId) (sA : Nat → Nat) (fu : Nat) {s0 : Nat} {x1 : Int32} {M : xM} {rr : Int32 × xM} (h : F_X11_lv fu s0 x1 M = some rr) (ad : Nat → Nat → Nat) (sz : Nat) (hs : ∀ q, ad 30 q = sA q) (hok : xokS M [.inr (.inr (11, some s0)), .inl x1]) :
    vx_Met l yX11_lives (.code yX11_lives cX11_lives 3 (some .int) :: xG) (xRoom 60 1 6) (va_Pc (([.inr (.inr (11, some s0)), .inl x1] : List xV).map (xcv ad)) (fun U => xPre D cA sA ad M sz U ∧ xThr (xA ad M sz) U U.heap))
      (fun a st o t => 0 ≤ rr.1 ∧ xPost D cA sA ad M sz (some (.inl rr.1)) rr.2 a st o t) (fun E st t => rr.1 < 0 ∧ lvX D cA sA ad M sz rr.2 E st t) 1 6 (xA ad M sz) := by
  refine vx_ofW (by decide +kernel) rfl ?_
  intro p e s m args below meth c s₁ B hml hout hv
  obtain ⟨rfl, ⟨hsz, hW, hK, hStr⟩, hT⟩ := hv
  subst hsz
  have hlocks := B.notSynchronized
  have hxA : ∀ q : Nat, s.heap.size ≤ q → xA ad M s.heap.size q := fun q hq => Or.inr hq
  have hT0 : ∀ w ∈ xG, w ∈ (Cond.code yX11_lives cX11_lives 3 (some .int) :: xG) := fun w hw => List.mem_cons_of_mem _ hw
  have hctx : xCtx p (xRoom 60 1 6) s m (([.inr (.inr (11, some s0)), .inl x1] : List xV).map (xcv ad)).toArray c D cA (xA ad M s.heap.size) sA 3 cX11_lives RX11 (.code yX11_lives cX11_lives 3 (some .int) :: xG) 1 6 :=
    ⟨B.exec, B.bytes, hml, findClass_of_methodNamed B.named, atoms_spec (ws := .code yX11_lives cX11_lives 3 (some .int) :: xG) B.pre, hK, hxA, Nat.le_refl _, Nat.le_refl _, by show 1 ≤ 60 + 1; omega, by show 60 ≤ 60 * (60 + 1); omega, hStr⟩
  have hWA : xWd D cA ad (xA ad M s.heap.size) M s.heap := ⟨fun cx sx hx => ⟨(hW.1 cx sx hx).1, (hW.1 cx sx hx).2.1, Or.inl ⟨cx, sx, hx, rfl⟩⟩, hW.2⟩
  have hroom : 3 + 2 ≤ (xRoom 60 1 6).frames ∧ 60 * (3 + 2) ≤ (xRoom 60 1 6).locals := ⟨by show 5 ≤ 61; omega, by show 300 ≤ 60 * 61; omega⟩
  have h0 := h
  rw [← q_X11_lv fu s0 x1 M] at h0
  have hend : ∀ (x : Int32) (M' : xM) (pc bc bs : Nat) (ls : xLs), rtLv (some (.inl x)) M' = some rr → decode cX11_lives pc = .ok (.ireturn, 1) → xWx p l e (xRoom 60 1 6) s m (([.inr (.inr (11, some s0)), .inl x1] : List xV).map (xcv ad)).toArray below meth c D cA (xA ad M s.heap.size) sA M ad 3 (vx_MQ below (fun a st o t => 0 ≤ rr.1 ∧ xPost D cA sA ad M s.heap.size (some (.inl rr.1)) rr.2 a st o t) (fun E st t => rr.1 < 0 ∧ lvX D cA sA ad M s.heap.size rr.2 E st t) (([.inr (.inr (11, some s0)), .inl x1] : List xV).map (xcv ad)).toArray s 1 6 (xA ad M s.heap.size)) 1 6 pc bc bs ls [.inl x] M' := by
    intro x M' pc bc bs ls hr hd
    obtain ⟨hx0, hr⟩ := gd_some hr
    have e1 : (x, M') = rr := Option.some.inj hr
    subst e1
    have hpos := of_decide_eq_true hx0
    intro ad' H locs arr cells slots g1 g2 g3 g4 g5 g6 g7 g8
    refine vx_ret (W.widen (k := 1) (n := 6) (by omega) (by omega) ?_)
    exact W.zret B.exec B.bytes (ty := .int) (by rw [B.returns]) rfl (fun t ht _ => ⟨hpos, ⟨ad', rfl, g1.1, g1.2, by rw [ht]; exact g2, fun w hw => by cases hw; exact trivial⟩, g3.F ht⟩) g3.2.2 hd hlocks
  have hcut : xCutS p l e (xRoom 60 1 6) s m (([.inr (.inr (11, some s0)), .inl x1] : List xV).map (xcv ad)).toArray below meth c D cA (xA ad M s.heap.size) sA M ad 3 (vx_MQ below (fun a st o t => 0 ≤ rr.1 ∧ xPost D cA sA ad M s.heap.size (some (.inl rr.1)) rr.2 a st o t) (fun E st t => rr.1 < 0 ∧ lvX D cA sA ad M s.heap.size rr.2 E st t) (([.inr (.inr (11, some s0)), .inl x1] : List xV).map (xcv ad)).toArray s 1 6 (xA ad M s.heap.size)) 1 6 rr (13, cuLv) := by
    intro bc bs ls st M2 h2
    have h2' : cuLv bc bs ls st M2 = some rr := h2
    unfold cuLv at h2'
    cases hb : (Nat.beq bc 1 && Nat.beq bs 6) with
    | false => rw [hb] at h2'; cases h2'
    | true =>
      rw [hb] at h2'
      rw [Bool.and_eq_true] at hb
      have e1 := Nat.eq_of_beq_eq_true hb.1
      have e2 := Nat.eq_of_beq_eq_true hb.2
      subst e1
      subst e2
      obtain ⟨x, hx2, h2'⟩ := lI_some h2'
      obtain ⟨rfl, h2'⟩ := xe_some h2'
      obtain ⟨hx0, h2'⟩ := gd_some h2'
      have e1 : (x, M2) = rr := Option.some.inj h2'
      subst e1
      have hneg := of_decide_eq_true hx0
      intro ad' H locs arr cells slots g1 g2 g3 g4 g5 g6 g7 g8
      have hts := hctx.2.2.2.2.1
      exact lx_throw (pc := 13) B.exec B.bytes hst (own := RX11) (X := nseN) (Y := "java/lang/RuntimeException") (text := xT2) (r := ["java/lang/Exception"]) (ik := 308) (is := 310) (ic := 312) (sa := sA 2) (A := xA ad M s.heap.size) dRx_0 dRx_1 dRx_2 dRx_5 hctx.2.2.2.1 (by decide +kernel) (by decide +kernel) (by decide +kernel)
        (hts _ (hT0 _ (xg 1442 (by decide +kernel) (by decide +kernel)))) (hts _ (hT0 _ (xg 152 (by decide +kernel) (by decide +kernel)))) hStr.2.2.2.1 (vx_hat (fun w hw => hts _ (hT0 _ (lvWs_G w hw))) lvNw_N (fun w hw => va_Nw.use (lvNw_t w hw) (hT.2.2 w hw))) lvWs_ot hT.1 hT.2.1 g3 (g4.1.trans hml.symm)
        dX11_lives_13 dX11_lives_16 dX11_lives_17 dX11_lives_20 dX11_lives_23 (fun x hx => (hout x hx).elim) (by show 1 + 4 < 61; omega) (by show 0 + (13 * (1 + 2) + 43) ≤ 60 * 61; omega) (by show cells + 1 ≤ 1; omega) (by show slots + 6 ≤ 6; omega) hlocks
        (fun t hal hsz hsame => ⟨hneg, rfl, ⟨ad', g1.1, g1.2, g2.keptL hsame⟩, Nat.le_trans g3.1 hsz, fun q h1 h2 => (hsame q (Nat.lt_of_lt_of_le h1 g3.1)).trans (g3.2.1 q h1 h2)⟩) g3.2.2 (by omega) (by omega)
  have hrun : xWx p l e (xRoom 60 1 6) s m (([.inr (.inr (11, some s0)), .inl x1] : List xV).map (xcv ad)).toArray below meth c D cA (xA ad M s.heap.size) sA M ad 3 (vx_MQ below (fun a st o t => 0 ≤ rr.1 ∧ xPost D cA sA ad M s.heap.size (some (.inl rr.1)) rr.2 a st o t) (fun E st t => rr.1 < 0 ∧ lvX D cA sA ad M s.heap.size rr.2 E st t) (([.inr (.inr (11, some s0)), .inl x1] : List xV).map (xcv ad)).toArray s 1 6 (xA ad M s.heap.size)) 1 6 0 1 6 [(0, .inr (.inr (11, some s0))), (1, .inl x1)] [] M := by
    refine xrun_sound (nst := 0) (isInit := false) (kd := kdX11) hctx (xcls_mono hT0 xclsG) (xpool_mono hT0 plX11) (fun z => by cases z) (fun idx v hf => xkoE_mono hT0 (koX11_ok _ (xfind_mem hf))) (xents (ca := _) ?_) hend (fun M' pc bc bs ls hr hd => by cases hr) (xcuts (cu := _) ?_) pr_X11_lv.1 pr_X11_lv.2 _ _ _ _ _ _ _ _ (xat_ok pr_X11_lv.1 pr_X11_lv.2).1 (xat_ok pr_X11_lv.1 pr_X11_lv.2).2.1 (xat_ok pr_X11_lv.1 pr_X11_lv.2).2.2 h0
    · exact (List.forall_mem_cons.mpr ⟨(xent_met hctx (ci := 2) hT0 cd_X2_slotOfLive lk_X11_269 rfl (by decide) rfl (by decide +kernel) (fun z => absurd z (by decide)) (hw_X2_slotOfLive l D cA sA fu 0) (fun _ => ⟨by decide, fun _ => ⟨TX2, 16, rfl⟩⟩) (by constructor <;> omega) (by decide)), (fun _ h => nomatch h)⟩)
    · exact (List.forall_mem_cons.mpr ⟨hcut, (fun _ h => nomatch h)⟩)
  rw [lg_entry_eq]
  have hfit2 : (lg_sl (([.inr (.inr (11, some s0)), .inl x1] : List xV).map (xcv ad))).length ≤ 3 := by rw [xslots]; exact Nat.le_of_ble_eq_true rfl
  have hl := lv_entry (([.inr (.inr (11, some s0)), .inl x1] : List xV).map (xcv ad)) hfit2
  rw [← xargs_lc] at hl
  exact hrun ad s.heap [] _ 0 0 ⟨hs, fun cx sx hx => ⟨hx, rfl⟩⟩ hWA va_S.rf hl (xargs_ok hok) (fun v hv => by cases hv) (Nat.le_of_eq (Nat.zero_add _)) (Nat.le_of_eq (Nat.zero_add _))
