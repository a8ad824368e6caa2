/-! ===== lives, through the law's own hands ===== -/
theorem mem_1 {α : Type} {a b : α} (h : a ∈ [b]) : a = b := (List.mem_cons.mp h).elim id (fun h => nomatch h)
section XLV
variable {p : Program} {l : Launch} {e : Env} {R : Room} {s : State} {m : MethodId} {args : Array Value} {below : List Frame} {meth : Method} {c : Code} {D : va_G} {cA : Nat → ClassId} {A0 : Nat → Prop} {sA : Nat → Nat} {M0 : xM} {ad0 : Nat → Nat → Nat} {nL : Nat} {cc : ByteArray} {own : String} {Ts : List Cond} {Z : State → Prop} {mcT msT : Nat}
variable {pc bc bs : Nat} {ls : xLs} {st : List xV} {M : xM}
theorem xblindT {as : List Value} {ad : Nat → Nat → Nat} {sz : Nat} : FrameBlind (va_Pc as (fun U => xPre D cA sA ad M sz U ∧ xThr (xA ad M sz) U U.heap)) := by
  intro a U g mk q
  obtain ⟨q0, ⟨q1, qP, qK, qS⟩, qT⟩ := q
  exact ⟨q0, ⟨q1, qP, va_K.moved (u := U) (U := U.calling g mk a) (Vm.Alike.refl U.vm) qK, xStr.same (s := U) (U := U.calling g mk a) rfl qS⟩, xThr.same (u := U) (U := U.calling g mk a) rfl qT⟩
/-- behind a call that may throw -/
theorem xs_backX {rest : List xV} {arr : Array Slot} {ad : Nat → Nat → Nat} {H : Heap} {locs : List Loc} {cells slots kc ks : Nat} {v : Option xV} {M' : xM} {stk : List Value} {a : Array Value} {P1 P2 : Prop}
    (hA : ∀ q : Nat, s.heap.size ≤ q → A0 q) (g1 : xFix sA M0 ad0 ad M) (g2 : xWd D cA ad A0 M H) (g3 : va_S A0 s.heap H locs) (g4 : lv_has arr nL (xlc ad ls)) (g5 : xokL M ls) (g6 : xokS M rest) (g7 : cells + bc ≤ mcT) (g8 : slots + bs ≤ msT) (hkc : kc ≤ bc) (hks : ks ≤ bs)
    (hr : vx_Run p l e R s m args below meth c H locs cells slots kc ks (F0 m pc arr stk) (rest.map (xcv ad)) (fun st o t => P1 ∧ xPost D cA sA ad M H.size v M' a st o t) (fun E st t => P2 ∧ lvX D cA sA ad M H.size M' E st t) (xA ad M H.size))
    (k : P1 → xWx p l e R s m args below meth c D cA A0 sA M0 ad0 nL Z mcT msT (pc + 3) (bc - kc) (bs - ks) ls (xpush v rest) M')
    (kx : P2 → ∀ (ad' : Nat → Nat → Nat) (H' : Heap) (locs' : List Loc) (q : Addr) (ce : Cell), xFix sA M0 ad0 ad' M' → xWd D cA ad' A0 M' H' → va_S A0 s.heap H' locs' → lv_has arr nL (xlc ad' ls) → H'[q]? = some ce → ce.vm = .none → s.vm.findClass nseN = some ce.cls → vx_W p l e R s m args below meth c H' locs' (cells + kc) (slots + ks) Z (F0 m pc arr (rest.map (xcv ad))) q) : W p l e R s m args below meth c H locs cells slots Z (F0 m pc arr stk) := by
  have hxA : ∀ q, q < s.heap.size → ¬ A0 q → ¬ xA ad M H.size q := by
    intro q hq hn hx
    rcases hx with ⟨cx, sx, h1, rfl⟩ | h1
    · exact hn (g2.1 cx sx h1).2.2
    · have := g3.1; omega
  have hxA2 : ∀ q, xA ad M H.size q → A0 q := by
    intro q hx
    rcases hx with ⟨cx, sx, h1, rfl⟩ | h1
    · exact (g2.1 cx sx h1).2.2
    · exact hA q (Nat.le_trans g3.1 h1)
  intro T hT X
  rcases hr T hT X with ⟨v0, st₀, t, T', L, h0, X', hL, e1, e2, ⟨hP, ⟨ad', r1, r2, r3, r4, hvo⟩, r5, r6⟩, sts⟩ | ⟨q, st₀, t, T', L, E, ce, h0, X', hL, e1, e2, ⟨hN, rfl, ⟨ad', r2, r3, r4⟩, r5, r6⟩, hce, hcv, hcl, sts⟩
  · rw [h0] at r5 r6
    have hmono : ∀ cx, gA M cx ≤ gA M' cx := fun cx => Nat.le_of_not_lt (fun hlt => by have := (r3 cx (gA M' cx) hlt).1; omega)
    have hS : va_S A0 s.heap t.heap (locs ++ L) := by
      refine ⟨Nat.le_trans g3.1 r5, fun q h1 h2 => ?_, fun q hq => ?_⟩
      · rw [r6 q (Nat.lt_of_lt_of_le h1 g3.1) (hxA q h1 h2)]
        exact g3.2.1 q h1 h2
      · rcases List.mem_append.mp hq with h | h
        · exact g3.2.2 q h
        · exact hxA2 _ (hL q h)
    have hW : xWd D cA ad' A0 M' t.heap := ⟨fun cx sx h => ⟨(r4.1 cx sx h).1, (r4.1 cx sx h).2.1, hxA2 _ (r4.1 cx sx h).2.2⟩, r4.2⟩
    have ext : ∀ w, vok M w → xcv ad' w = xcv ad w := fun w hw => xcv_ext (fun cx sx h => (r3 cx sx h).2) (fun q => by rw [r2, g1.1]) hw
    have hl : lv_has arr nL (xlc ad' ls) := by
      have : xlc ad' ls = xlc ad ls := List.map_congr_left (fun w hw => by rw [ext _ (g5 w hw)])
      rw [this]; exact g4
    have hst : rest.map (xcv ad') = rest.map (xcv ad) := List.map_congr_left (fun w hw => ext w (g6 w hw))
    have hfix : xFix sA M0 ad0 ad' M' := ⟨r2, fun cx sx h => ⟨(r3 cx sx (g1.2 cx sx h).1).1, ((r3 cx sx (g1.2 cx sx h).1).2).trans (g1.2 cx sx h).2⟩⟩
    have hv0 : v0 = v.map (xcv ad') := Outcome.returned.inj r1
    have key : W p l e R s m args below meth c t.heap (locs ++ L) (cells + kc) (slots + ks) Z (F0 m (pc + 3) arr (v0.toList ++ rest.map (xcv ad))) := by
      subst hv0
      cases v with
      | none =>
        have h9 := k hP ad' t.heap (locs ++ L) arr (cells + kc) (slots + ks) hfix hW hS hl (fun q hq => vok_le hmono (g5 q hq)) (fun q hq => vok_le hmono (g6 q hq)) (by omega) (by omega)
        simp only [xpush] at h9
        rw [hst] at h9
        exact h9
      | some w =>
        have h9 := k hP ad' t.heap (locs ++ L) arr (cells + kc) (slots + ks) hfix hW hS hl (fun q hq => vok_le hmono (g5 q hq)) (xokS.cons (hvo w rfl) (fun q hq => vok_le hmono (g6 q hq))) (by omega) (by omega)
        simp only [xpush] at h9
        rw [List.map_cons, hst] at h9
        exact h9
    obtain ⟨t2, a1, b1⟩ := key T' e1 X'
    exact ⟨t2, sts t2 a1, b1⟩
  · rw [h0] at r5 r6
    have hS : va_S A0 s.heap t.heap (locs ++ L) := by
      refine ⟨Nat.le_trans g3.1 r5, fun q h1 h2 => ?_, fun q hq => ?_⟩
      · rw [r6 q (Nat.lt_of_lt_of_le h1 g3.1) (hxA q h1 h2)]
        exact g3.2.1 q h1 h2
      · rcases List.mem_append.mp hq with h | h
        · exact g3.2.2 q h
        · exact hxA2 _ (hL q h)
    have hW : xWd D cA ad' A0 M' t.heap := ⟨fun cx sx h => ⟨(r4.1 cx sx h).1, (r4.1 cx sx h).2.1, hxA2 _ (r4.1 cx sx h).2.2⟩, r4.2⟩
    have ext : ∀ w, vok M w → xcv ad' w = xcv ad w := fun w hw => xcv_ext (fun cx sx h => (r3 cx sx h).2) (fun q => by rw [r2, g1.1]) hw
    have hl : lv_has arr nL (xlc ad' ls) := by
      have : xlc ad' ls = xlc ad ls := List.map_congr_left (fun w hw => by rw [ext _ (g5 w hw)])
      rw [this]; exact g4
    have hfix : xFix sA M0 ad0 ad' M' := ⟨r2, fun cx sx h => ⟨(r3 cx sx (g1.2 cx sx h).1).1, ((r3 cx sx (g1.2 cx sx h).1).2).trans (g1.2 cx sx h).2⟩⟩
    obtain ⟨t2, a1, b1⟩ := kx hN ad' t.heap (locs ++ L) q ce hfix hW hS hl hce hcv hcl T' e1 X'
    exact ⟨t2, sts.trans a1, b1⟩
end XLV
theorem eL_lives_0 : decode cL_lives 0 = .ok (.aload_n 2, 1) := by decide +kernel
theorem eL_lives_1 : decode cL_lives 1 = .ok (.iconst 0, 1) := by decide +kernel
theorem eL_lives_2 : decode cL_lives 2 = .ok (.aload_n 0, 1) := by decide +kernel
theorem eL_lives_3 : decode cL_lives 3 = .ok (.iload_n 1, 1) := by decide +kernel
theorem eL_lives_4 : decode cL_lives 4 = .ok (.invokevirtual 7, 3) := by decide +kernel
theorem eL_lives_7 : decode cL_lives 7 = .ok (.i2l, 1) := by decide +kernel
theorem eL_lives_8 : decode cL_lives 8 = .ok (.lastore, 1) := by decide +kernel
theorem eL_lives_9 : decode cL_lives 9 = .ok (.goto 6, 3) := by decide +kernel
theorem eL_lives_12 : decode cL_lives 12 = .ok (.astore_n 3, 1) := by decide +kernel
theorem eL_lives_13 : decode cL_lives 13 = .ok (.iconst 1, 1) := by decide +kernel
theorem eL_lives_14 : decode cL_lives 14 = .ok (.ireturn, 1) := by decide +kernel
theorem eL_lives_15 : decode cL_lives 15 = .ok (.iconst 0, 1) := by decide +kernel
theorem eL_lives_16 : decode cL_lives 16 = .ok (.ireturn, 1) := by decide +kernel
set_option maxHeartbeats 4000000 in
/-- FlashNodesLaw.lives: 0 and the slot laid down, or 1 -/
theorem lvL_met (l : Launch) (hst : l.stackTraces = false) (D : va_G) (cA : Nat → ClassId) (sA : Nat → Nat) (fu : Nat) {s0 a0 : Nat} {x1 : Int32} {M : xM} {kk : Int32 × xM} (h : F_L_lives fu (some s0) x1 (some a0) M = some kk) (ad : Nat → Nat → Nat) (sz : Nat) (hs : ∀ q, ad 30 q = sA q) (hok : xokS M [.inr (.inr (11, some s0)), .inl x1, .inr (.inr (21, some a0))]) :
    Met l yL_lives (.codeWith yL_lives cL_lives 4 (some .int) [(0, 9, 12, 13)] :: xG) (xRoom 70 1 10) (va_Pc (([.inr (.inr (11, some s0)), .inl x1, .inr (.inr (21, some a0))] : List xV).map (xcv ad)) (fun U => xPre D cA sA ad M sz U ∧ xThr (xA ad M sz) U U.heap)) (xPost D cA sA ad M sz (some (.inl kk.1)) kk.2) 1 10 (xA ad M sz) := by
  -- what it does
  unfold F_L_lives at h
  simp only [Option.bind_some] at h
  obtain ⟨d, hd1, h⟩ := Option.bind_eq_some_iff.mp h
  obtain ⟨rr, hd2, h⟩ := Option.bind_eq_some_iff.mp h
  have hlv : F_X11_lv fu s0 x1 M = some rr := lv_is hd1 hd2
  refine va_MetW (by decide +kernel) rfl ?_
  intro p e s m args below meth c s₁ B hml hv
  obtain ⟨rfl, ⟨hsz, hW, hK, hStr⟩, hT⟩ := hv
  subst hsz
  have hlocks := B.notSynchronized
  have hxA : ∀ q : Nat, s.heap.size ≤ q → xA ad M s.heap.size q := fun q hq => Or.inr hq
  have hT0 : ∀ w ∈ xG, w ∈ (Cond.codeWith yL_lives cL_lives 4 (some .int) [(0, 9, 12, 13)] :: xG) := fun w hw => List.mem_cons_of_mem _ hw
  have hts : ∀ w ∈ (Cond.codeWith yL_lives cL_lives 4 (some .int) [(0, 9, 12, 13)] :: xG), w.before (([.inr (.inr (11, some s0)), .inl x1, .inr (.inr (21, some a0))] : List xV).map (xcv ad)).toArray s = true := atoms_spec (ws := Cond.codeWith yL_lives cL_lives 4 (some .int) [(0, 9, 12, 13)] :: xG) B.pre
  have hctx : xCtx p (xRoom 70 1 10) s m (([.inr (.inr (11, some s0)), .inl x1, .inr (.inr (21, some a0))] : List xV).map (xcv ad)).toArray c D cA (xA ad M s.heap.size) sA 4 cL_lives RL (.codeWith yL_lives cL_lives 4 (some .int) [(0, 9, 12, 13)] :: xG) 1 10 :=
    ⟨B.exec, B.bytes, hml, findClass_of_methodNamed B.named, hts, hK, hxA, Nat.le_refl _, Nat.le_refl _, by show 1 ≤ 70 + 1; omega, by show 60 ≤ 60 * (70 + 1); omega, hStr⟩
  have hWA : xWd D cA ad (xA ad M s.heap.size) M s.heap := ⟨fun cx sx hx => ⟨(hW.1 cx sx hx).1, (hW.1 cx sx hx).2.1, Or.inl ⟨cx, sx, hx, rfl⟩⟩, hW.2⟩
  -- the end, with an int on the stack
  have hend : ∀ (x : Int32) (M' : xM), (x, M') = kk → ∀ (pc bc bs : Nat) (ls : xLs), decode cL_lives pc = .ok (.ireturn, 1) → xWx p l e (xRoom 70 1 10) s m (([.inr (.inr (11, some s0)), .inl x1, .inr (.inr (21, some a0))] : List xV).map (xcv ad)).toArray below meth c D cA (xA ad M s.heap.size) sA M ad 4 (MQ below (xPost D cA sA ad M s.heap.size (some (.inl kk.1)) kk.2) (([.inr (.inr (11, some s0)), .inl x1, .inr (.inr (21, some a0))] : List xV).map (xcv ad)).toArray s 1 10 (xA ad M s.heap.size)) 1 10 pc bc bs ls [.inl x] M' := by
    intro x M' e1 pc bc bs ls hd ad' H locs arr cells slots g1 g2 g3 g4 g5 g6 g7 g8
    subst e1
    refine W.widen (k := 1) (n := 10) (by omega) (by omega) ?_
    exact W.zret B.exec B.bytes (ty := .int) (by rw [B.returns]) rfl (fun t ht _ => ⟨⟨ad', rfl, g1.1, g1.2, by rw [ht]; exact g2, fun w hw => by cases hw; exact trivial⟩, g3.F ht⟩) g3.2.2 hd hlocks
  have hl0 : xWx p l e (xRoom 70 1 10) s m (([.inr (.inr (11, some s0)), .inl x1, .inr (.inr (21, some a0))] : List xV).map (xcv ad)).toArray below meth c D cA (xA ad M s.heap.size) sA M ad 4 (MQ below (xPost D cA sA ad M s.heap.size (some (.inl kk.1)) kk.2) (([.inr (.inr (11, some s0)), .inl x1, .inr (.inr (21, some a0))] : List xV).map (xcv ad)).toArray s 1 10 (xA ad M s.heap.size)) 1 10 0 1 10 [(0, .inr (.inr (11, some s0))), (1, .inl x1), (2, .inr (.inr (21, some a0)))] [] M := by
    refine xs_aload_n hctx eL_lives_0 rfl ?_
    refine xs_iconst (v := 0) hctx eL_lives_1 (by decide) ?_
    refine xs_aload_n hctx eL_lives_2 rfl ?_
    refine xs_iload_n hctx eL_lives_3 rfl ?_
    intro ad1 H locs arr cells slots g1 g2 g3 g4 g5 g6 g7 g8
    have ha : s0 < gA M 11 := vok_ref (hok.head) (by omega)
    have hP1 := xP1 g2 ha
    rw [xcell_obj (by omega)] at hP1
    have hrc := va_recv hK hP1 (q0 := 0) (show vwCl[11]? = some (RX11, TX11, 14) from rfl) rfl
    have hok1 : xokS M [.inr (.inr (11, some s0)), .inl x1] := fun w hw => hok w (by
      rcases List.mem_cons.mp hw with rfl | hw
      · exact List.mem_cons_self
      · exact List.mem_cons_of_mem _ (List.mem_cons.mpr (Or.inl (mem_1 hw))))
    have hor : xokS M [.inl 0, .inr (.inr (21, some a0))] := fun w hw => by
      rcases List.mem_cons.mp hw with rfl | hw
      · trivial
      · rw [mem_1 hw]
        exact hok _ (List.mem_cons_of_mem _ (List.mem_cons_of_mem _ List.mem_cons_self))
    have hMt := lv_met l hst D cA sA fu hlv ad1 H.size g1.1 hok1
    have hxA2 : ∀ q, xA ad1 M H.size q → xA ad M s.heap.size q := by
      intro q hx
      rcases hx with ⟨cx, sx, h1, rfl⟩ | h1
      · exact (g2.1 cx sx h1).2.2
      · exact hxA q (Nat.le_trans g3.1 h1)
    have hpre : ∀ U : State, U.heap = H → s.WarmedH U.vm → va_Pc (([.inr (.inr (11, some s0)), .inl x1] : List xV).map (xcv ad1)) (fun U => xPre D cA sA ad1 M H.size U ∧ xThr (xA ad1 M H.size) U U.heap) (([.inr (.inr (11, some s0)), .inl x1] : List xV).map (xcv ad1)).toArray U := by
      intro U hU hWm
      exact ⟨rfl, ⟨by rw [hU], by rw [hU]; exact ⟨fun cx sx h => ⟨(g2.1 cx sx h).1, (g2.1 cx sx h).2.1, trivial⟩, g2.2⟩, va_K.moved hWm.alike hK, by rw [hU]; exact (((hStr.kept (fun a h1 h2 => g3.2.1 a h1 h2)).narrow hxA2).warm hWm)⟩, by rw [hU]; exact ((hT.kept (fun a h1 h2 => g3.2.1 a h1 h2)).narrow hxA2).warm hWm⟩
    have hcf : CallFix p m c cL_lives 4 s (([.inr (.inr (11, some s0)), .inl x1, .inr (.inr (21, some a0))] : List xV).map (xcv ad)).toArray (.codeWith yL_lives cL_lives 4 (some .int) [(0, 9, 12, 13)] :: xG) RL := ⟨B.exec, B.bytes, hml, hctx.2.2.2.1, hts⟩
    have hG : GoodIn (.codeWith yL_lives cL_lives 4 (some .int) [(0, 9, 12, 13)] :: xG) (.code yX11_lives cX11_lives 3 (some .int) :: xG) := xG_good cd_X11_lives hT0
    have hsum1 : 2 * (F0 m 4 arr (([.inl x1, .inr (.inr (11, some s0)), .inl 0, .inr (.inr (21, some a0))] : List xV).map (xcv ad1))).monitorRoom + ((([.inl 0, .inr (.inr (21, some a0))] : List xV).map (xcv ad1)).map fun v => v.category).sum ≤ 8 := lv_room (Nat.le_of_ble_eq_true rfl)
    have hr := vx_runV (rest := ([.inl 0, .inr (.inr (21, some a0))] : List xV).map (xcv ad1)) (As := [xcv ad1 (.inl x1)]) (R := xRoom 70 1 10) (g := F0 m 4 arr (([.inl x1, .inr (.inr (11, some s0)), .inl 0, .inr (.inr (21, some a0))] : List xV).map (xcv ad1))) (cells := cells) (slots := slots) (locs := locs) (below := below) (meth := meth) (e := e) hcf hMt ⟨callB_of 1 hts hG rfl rfl rfl (hts _ (hT0 _ (xg 128 (by decide +kernel) (by decide +kernel)))) (hts _ (hT0 _ (xg 1438 (by decide +kernel) (by decide +kernel)))) (by decide +kernel) ⟨by show 60 + 1 + 1 ≤ 70 + 1; omega, by show 8 + (3 + 11) + 60 * (60 + 1) ≤ 60 * (70 + 1); omega⟩, hts _ (hT0 _ (xg 1439 (by decide +kernel) (by decide +kernel))), hts _ (hT0 _ (xg 1440 (by decide +kernel) (by decide +kernel)))⟩ ⟨xblindT, hrc, hpre⟩ rfl rfl g4.1 rfl hsum1 eL_lives_4 ⟨by show cells + 1 ≤ 1; omega, by show slots + 6 ≤ 10; omega⟩
    refine xs_backX (bc := 1) (bs := 10) (mcT := 1) (msT := 10) hxA g1 g2 g3 g4 g5 hor g7 g8 (Nat.le_refl 1) (by omega) hr (fun hpos => ?_) (fun hneg ad2 H2 locs2 q ce f1 f2 f3 f4 f5 f6 f7 => ?_)
    · rw [if_neg (Int32.not_lt.mpr hpos)] at h
      obtain ⟨hx1, h⟩ := gd_some h
      have e1 := Option.some.inj h
      refine xs_i2l hctx eL_lives_7 ?_
      refine xs_last hctx eL_lives_8 hx1 ?_
      refine xs_goto (tgt := 15) hctx eL_lives_9 rfl ?_
      refine xs_iconst (v := 0) hctx eL_lives_15 (by decide) ?_
      exact hend 0 _ e1 16 _ _ _ eL_lives_16
    · rw [if_pos hneg] at h
      have e1 := Option.some.inj h
      have htab : c.exceptionTable.toList = tableOf [(0, 9, 12, 13)] := vx_table (x := yL_lives) B (hts _ List.mem_cons_self)
      refine vx_catch (own := RL) (name := nseN) (E := nseN) hctx.2.2.2.1 [] _ [] (show c.exceptionTable.toList = [] ++ _ :: [] from htab) (fun z hz => nomatch hz) (by decide) (by decide) (hts _ (hT0 _ (xg 1437 (by decide +kernel) (by decide +kernel)))) (va_Nw.use rfl (hT.2.2 _ List.mem_cons_self)) f5 f6 f7 ?_
      refine lv_astore_n B.exec B.bytes eL_lives_12 rfl f4 (by decide) rfl (fun ls2 hl2 => ?_)
      refine lv_iconst (v := 1) B.exec B.bytes eL_lives_13 (by decide) ?_
      subst e1
      refine W.widen (k := 1) (n := 10) (by omega) (by omega) ?_
      exact W.zret B.exec B.bytes (ty := .int) (by rw [B.returns]) rfl (fun t ht _ => ⟨⟨ad2, rfl, f1.1, f1.2, by rw [ht]; exact f2, fun w hw => by cases hw; exact trivial⟩, f3.F ht⟩) f3.2.2 eL_lives_14 hlocks
  rw [lg_entry_eq]
  have hfit2 : (lg_sl (([.inr (.inr (11, some s0)), .inl x1, .inr (.inr (21, some a0))] : List xV).map (xcv ad))).length ≤ 4 := by rw [xslots]; exact Nat.le_of_ble_eq_true rfl
  have hl := lv_entry (([.inr (.inr (11, some s0)), .inl x1, .inr (.inr (21, some a0))] : List xV).map (xcv ad)) hfit2
  rw [← xargs_lc] at hl
  exact hl0 ad s.heap [] _ 0 0 ⟨hs, fun cx sx hx => ⟨hx, rfl⟩⟩ hWA va_S.rf hl (xargs_ok hok) (fun v hv => by cases hv) (Nat.le_of_eq (Nat.zero_add _)) (Nat.le_of_eq (Nat.zero_add _))
section XLE
variable {p : Program} {l : Launch} {e : Env} {R : Room} {s : State} {m : MethodId} {args : Array Value} {below : List Frame} {meth : Method} {c : Code} {D : va_G} {cA : Nat → ClassId} {A0 : Nat → Prop} {sA : Nat → Nat} {M0 : xM} {ad0 : Nat → Nat → Nat} {nL : Nat} {cc : ByteArray} {Z : State → Prop} {mcT msT : Nat}
variable {ρ : Type} {r : ρ} {kd : List (Nat × Nat)}
theorem lvL_good : GoodIn lw_tbl (va_wsS RL 169 yL_lives (.codeWith yL_lives cL_lives 4 (some .int) [(0, 9, 12, 13)] :: xG)) := by
  have hp : ∀ i w, lw_tbl[i]? = some w → goodWord w = true → w ∈ lw_tbl ∧ ((w.onTables && w.keeps) = true ∨ ∃ ty, w = .arrayClass ty) := fun i w h1 h2 => ⟨List.mem_of_getElem? h1, good_of_word h2⟩
  intro w hw
  unfold va_wsS at hw
  rcases List.mem_append.mp hw with hw | hw
  · rcases List.mem_cons.mp hw with rfl | hw
    · exact hp 1434 _ (by decide +kernel) (by decide +kernel)
    rcases List.mem_cons.mp hw with rfl | hw
    · exact hp 1435 _ (by decide +kernel) (by decide +kernel)
    rw [mem_1 hw]
    have h0 : (Cond.initialized yL_lives.cls ∈ lw_tbl) ∧ goodWord (Cond.initialized yL_lives.cls) = true := by decide +kernel
    exact ⟨h0.1, good_of_word h0.2⟩
  · rcases List.mem_cons.mp hw with rfl | hw
    · exact hp 1436 _ (by decide +kernel) (by decide +kernel)
    · have h0 := List.mem_filter.mp hw
      exact ⟨h0.1, good_of_word h0.2⟩
theorem xent_lives (X : xCtx p R s m args c D cA A0 sA nL cc RL lw_tbl mcT msT) (hThr : xThr A0 s s.heap) (hst : l.stackTraces = false) {fu : Nat} (hk1 : xfind 169 kd = some 2) (hroom : 72 + 2 ≤ R.frames ∧ 60 * (72 + 2) ≤ R.locals) :
    xEnt p l e R s m args below meth c D cA A0 sA M0 ad0 nL cc Z mcT msT kd r (169, 3, 1, 10, w_L_lives fu) := by
  intro kd0 hk pc bc bs ls as rest M k hd hlen hwk hcat hkc hks hcont
  rw [hk1] at hk
  cases hk
  have hwk' : w_L_lives fu as M k = some r := hwk
  unfold w_L_lives at hwk'
  replace hwk' := pR_some hwk'
  obtain ⟨x0, as1, rfl, hwk'⟩ := hwk'
  replace hwk' := pI_some hwk'
  obtain ⟨x1, as2, rfl, hwk'⟩ := hwk'
  replace hwk' := pR_some hwk'
  obtain ⟨x2, as3, rfl, hwk'⟩ := hwk'
  replace hwk' := xe_some hwk'
  obtain ⟨rfl, hwk'⟩ := hwk'
  obtain ⟨kk, hF, hk2⟩ := Option.bind_eq_some_iff.mp hwk'
  cases x2 with
  | none =>
    unfold F_L_lives at hF
    cases hF
  | some a0 =>
    cases x0 with
    | none =>
      unfold F_L_lives at hF
      cases hF
    | some s0 =>
      obtain ⟨hx, hb, hml, ho, hts, hK, hA, hmc, hms, hfr, hlo⟩ := X
      intro ad H locs arr cells slots g1 g2 g3 g4 g5 g6 g7 g8
      have hoa : xokS M [.inr (.inr (11, some s0)), .inl x1, .inr (.inr (21, some a0))] := fun w hw => g6 w (List.mem_append_left _ (List.mem_reverse.mpr hw))
      have hor : xokS M rest := fun w hw => g6 w (List.mem_append_right _ hw)
      have hMt := lvL_met l hst D cA sA fu hF ad H.size g1.1 hoa
      have hxA2 : ∀ q, xA ad M H.size q → A0 q := by
        intro q hx
        rcases hx with ⟨cx, sx, h1, rfl⟩ | h1
        · exact (g2.1 cx sx h1).2.2
        · exact hA q (Nat.le_trans g3.1 h1)
      have hpre : ∀ U : State, U.heap = H → s.WarmedH U.vm → va_Pc (([.inr (.inr (11, some s0)), .inl x1, .inr (.inr (21, some a0))] : List xV).map (xcv ad)) (fun U => xPre D cA sA ad M H.size U ∧ xThr (xA ad M H.size) U U.heap) (([.inr (.inr (11, some s0)), .inl x1, .inr (.inr (21, some a0))] : List xV).map (xcv ad)).toArray U := by
        intro U hU hWm
        exact ⟨rfl, ⟨by rw [hU], by rw [hU]; exact ⟨fun cx sx h => ⟨(g2.1 cx sx h).1, (g2.1 cx sx h).2.1, trivial⟩, g2.2⟩, va_K.moved hWm.alike hK, by rw [hU]; exact (((hlo.2.kept (fun a h1 h2 => g3.2.1 a h1 h2)).narrow hxA2).warm hWm)⟩, by rw [hU]; exact ((hThr.kept (fun a h1 h2 => g3.2.1 a h1 h2)).narrow hxA2).warm hWm⟩
      have hmap : (([.inr (.inr (11, some s0)), .inl x1, .inr (.inr (21, some a0))] : List xV).reverse ++ rest).map (xcv ad) = (([.inr (.inr (11, some s0)), .inl x1, .inr (.inr (21, some a0))] : List xV).map (xcv ad)).reverse ++ rest.map (xcv ad) := by rw [List.map_append, List.map_reverse]
      have hsum : 2 * (F0 m pc arr ((([.inr (.inr (11, some s0)), .inl x1, .inr (.inr (21, some a0))] : List xV).reverse ++ rest).map (xcv ad))).monitorRoom + ((rest.map (xcv ad)).map fun v => v.category).sum ≤ 8 := by
        refine lv_room ?_
        have : ((rest.map (xcv ad)).map fun v => v.category).sum = xcats rest := by
          clear hcat hor g6 hcont hmap
          induction rest with
          | nil => rfl
          | cons w r ih => simp only [List.map_cons, List.sum_cons, xcat_cv, xcats]; rw [ih]
        rw [this]; exact hcat
      refine xs_back hA g1 g2 g3 g4 g5 hor g7 g8 hkc hks (a := (([.inr (.inr (11, some s0)), .inl x1, .inr (.inr (21, some a0))] : List xV).map (xcv ad)).toArray) ?_ (hcont _ _ hk2)
      exact vx_runSW (As := ([.inr (.inr (11, some s0)), .inl x1, .inr (.inr (21, some a0))] : List xV).map (xcv ad)) ⟨hx, hb, hml, ho, hts⟩ hMt (vx_cwSW 3 hts lvL_good rfl rfl rfl (by decide +kernel) ⟨by show 70 + 1 + 1 ≤ R.frames; omega, by show 8 + (4 + 11) + 60 * (70 + 1) ≤ R.locals; omega⟩) ⟨xblindT, hpre⟩ rfl rfl g4.1 hmap hsum hd ⟨by omega, by omega⟩
end XLE
