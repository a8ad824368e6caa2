/-! ===== arrays, new cells ===== -/
section XARR
variable {p : Program} {l : Launch} {e : Env} {R : Room} {s : State} {m : MethodId} {args : Array Value} {below : List Frame} {meth : Method} {c : Code} {D : va_G} {cA : Nat → ClassId} {A0 : Nat → Prop} {sA : Nat → Nat} {M0 : xM} {ad0 : Nat → Nat → Nat} {nL : Nat} {cc : ByteArray} {own : String} {Ts : List Cond} {Z : State → Prop} {mcT msT : Nat}
variable {pc bc bs : Nat} {ls : xLs} {st : List xV} {M : xM}
theorem xs_iald (X : xCtx p R s m args c D cA A0 sA nL cc own Ts mcT msT) {i : Int32} {a : Nat} (hd : decode cc pc = .ok (.iaload, 1)) (hi : xin i (gN M 20 a) = true) (k : xWx p l e R s m args below meth c D cA A0 sA M0 ad0 nL Z mcT msT (pc + 1) bc bs ls (.inl (gI M 20 a (xi i)) :: st) M) : xWx p l e R s m args below meth c D cA A0 sA M0 ad0 nL Z mcT msT pc bc bs ls (.inl i :: .inr (.inr (20, some a)) :: st) M := by
  obtain ⟨hx, hb, hml, ho, hts, hK, hA, hmc, hms, hfr, hlo⟩ := X
  intro ad H locs arr cells slots g1 g2 g3 g4 g5 g6 g7 g8
  have ha := vok_ref g6.tail.head (by omega)
  have hP := xP1 g2 ha
  rw [xcell_arr (by omega)] at hP
  exact va_iald hx hb hK hP 0 0 rfl rfl (xin_vp hi) hd (k ad H locs arr cells slots g1 g2 g3 g4 g5 (g6.tail.tail.cons trivial) g7 g8)
theorem xs_zald (X : xCtx p R s m args c D cA A0 sA nL cc own Ts mcT msT) {i : Int32} {a : Nat} (hd : decode cc pc = .ok (.baload, 1)) (hi : xin i (gN M 22 a) = true) (k : xWx p l e R s m args below meth c D cA A0 sA M0 ad0 nL Z mcT msT (pc + 1) bc bs ls (.inl (gI M 22 a (xi i)) :: st) M) : xWx p l e R s m args below meth c D cA A0 sA M0 ad0 nL Z mcT msT pc bc bs ls (.inl i :: .inr (.inr (22, some a)) :: st) M := by
  obtain ⟨hx, hb, hml, ho, hts, hK, hA, hmc, hms, hfr, hlo⟩ := X
  intro ad H locs arr cells slots g1 g2 g3 g4 g5 g6 g7 g8
  have ha := vok_ref g6.tail.head (by omega)
  have hP := xP1 g2 ha
  rw [xcell_arr (by omega)] at hP
  exact va_zald hx hb hK hP 0 2 rfl rfl (xin_vp hi) hd (k ad H locs arr cells slots g1 g2 g3 g4 g5 (g6.tail.tail.cons trivial) g7 g8)
theorem xs_cald (X : xCtx p R s m args c D cA A0 sA nL cc own Ts mcT msT) {i : Int32} {a : Nat} (hd : decode cc pc = .ok (.caload, 1)) (hi : xin i (gN M 23 a) = true) (k : xWx p l e R s m args below meth c D cA A0 sA M0 ad0 nL Z mcT msT (pc + 1) bc bs ls (.inl (gI M 23 a (xi i)) :: st) M) : xWx p l e R s m args below meth c D cA A0 sA M0 ad0 nL Z mcT msT pc bc bs ls (.inl i :: .inr (.inr (23, some a)) :: st) M := by
  obtain ⟨hx, hb, hml, ho, hts, hK, hA, hmc, hms, hfr, hlo⟩ := X
  intro ad H locs arr cells slots g1 g2 g3 g4 g5 g6 g7 g8
  have ha := vok_ref g6.tail.head (by omega)
  have hP := xP1 g2 ha
  rw [xcell_arr (by omega)] at hP
  exact va_cald hx hb hK hP 0 3 rfl rfl (xin_vp hi) hd (k ad H locs arr cells slots g1 g2 g3 g4 g5 (g6.tail.tail.cons trivial) g7 g8)
theorem xs_lald (X : xCtx p R s m args c D cA A0 sA nL cc own Ts mcT msT) {i : Int32} {a : Nat} (hd : decode cc pc = .ok (.laload, 1)) (hi : xin i (gN M 21 a) = true) (k : xWx p l e R s m args below meth c D cA A0 sA M0 ad0 nL Z mcT msT (pc + 1) bc bs ls (.inr (.inl (gL M 21 a (xi i))) :: st) M) : xWx p l e R s m args below meth c D cA A0 sA M0 ad0 nL Z mcT msT pc bc bs ls (.inl i :: .inr (.inr (21, some a)) :: st) M := by
  obtain ⟨hx, hb, hml, ho, hts, hK, hA, hmc, hms, hfr, hlo⟩ := X
  intro ad H locs arr cells slots g1 g2 g3 g4 g5 g6 g7 g8
  have ha := vok_ref g6.tail.head (by omega)
  have hP := xP1 g2 ha
  rw [xcell_arrL] at hP
  exact va_lald hx hb hK hP 0 1 rfl rfl (xin_vp hi) hd (k ad H locs arr cells slots g1 g2 g3 g4 g5 (g6.tail.tail.cons trivial) g7 g8)
theorem xs_aald (X : xCtx p R s m args c D cA A0 sA nL cc own Ts mcT msT) {i : Int32} {a ci : Nat} (hci : ci = 24 ∨ ci = 25) (hd : decode cc pc = .ok (.aaload, 1)) (hi : xin i (gN M ci a) = true) (k : xWx p l e R s m args below meth c D cA A0 sA M0 ad0 nL Z mcT msT (pc + 1) bc bs ls (.inr (.inr (xelt ci, gR M ci a (xi i))) :: st) M) : xWx p l e R s m args below meth c D cA A0 sA M0 ad0 nL Z mcT msT pc bc bs ls (.inl i :: .inr (.inr (ci, some a)) :: st) M := by
  obtain ⟨hx, hb, hml, ho, hts, hK, hA, hmc, hms, hfr, hlo⟩ := X
  intro ad H locs arr cells slots g1 g2 g3 g4 g5 g6 g7 g8
  have ha := vok_ref g6.tail.head (by omega)
  have hP := xP1 g2 ha
  rw [xcell_arrR hci] at hP
  have hv : vok M (.inr (.inr (xelt ci, gR M ci a (xi i)))) := by
    cases hr : gR M ci a (xi i) with
    | none => trivial
    | some s' =>
      left
      have := g2.2.2.1 ci a _ s' ha hr
      unfold xrt at this
      rw [if_neg (by omega)] at this
      exact this
  have h9 := k ad H locs arr cells slots g1 g2 g3 g4 g5 (g6.tail.tail.cons hv) g7 g8
  have e1 : xcv ad (.inr (.inr (xelt ci, gR M ci a (xi i)))) = va_rf ((fun k => (gR M ci a k).map (ad (xelt ci))) i.toNatClampNeg) := by
    show _ = va_rf ((gR M ci a (xi i)).map (ad (xelt ci)))
    cases gR M ci a (xi i) <;> rfl
  rw [List.map_cons, e1] at h9
  rcases hci with rfl | rfl
  · exact va_aldq hx hb hK hP 0 4 rfl rfl (xin_vp hi) hd h9
  · exact va_aldq hx hb hK hP 0 5 rfl rfl (xin_vp hi) hd h9
theorem xs_alen (X : xCtx p R s m args c D cA A0 sA nL cc own Ts mcT msT) {a ci : Nat} (hci : 20 ≤ ci ∧ ci ≤ 25) (hd : decode cc pc = .ok (.arraylength, 1)) (k : xWx p l e R s m args below meth c D cA A0 sA M0 ad0 nL Z mcT msT (pc + 1) bc bs ls (.inl (Int32.ofNat (gN M ci a)) :: st) M) : xWx p l e R s m args below meth c D cA A0 sA M0 ad0 nL Z mcT msT pc bc bs ls (.inr (.inr (ci, some a)) :: st) M := by
  obtain ⟨hx, hb, hml, ho, hts, hK, hA, hmc, hms, hfr, hlo⟩ := X
  intro ad H locs arr cells slots g1 g2 g3 g4 g5 g6 g7 g8
  have ha := vok_ref g6.head (by omega)
  have hP := xP1 g2 ha
  have h9 := k ad H locs arr cells slots g1 g2 g3 g4 g5 (g6.tail.cons trivial) g7 g8
  have e1 : ∃ x : vp_A, xcell cA ad M ci a = .inl (cA ci, x) ∧ x.1 = gN M ci a := by
    unfold xcell
    rw [if_neg (by omega)]
    exact ⟨_, rfl, rfl⟩
  obtain ⟨x, e2, e3⟩ := e1
  rw [e2] at hP
  have ht : ∃ (t0 : Nat) (ty : FieldType), (xtys cA)[t0]? = some (cA ci, ty) := by
    rcases (show ci = 20 ∨ ci = 21 ∨ ci = 22 ∨ ci = 23 ∨ ci = 24 ∨ ci = 25 by omega) with h | h | h | h | h | h <;> subst h
    · exact ⟨0, _, rfl⟩
    · exact ⟨1, _, rfl⟩
    · exact ⟨2, _, rfl⟩
    · exact ⟨3, _, rfl⟩
    · exact ⟨4, _, rfl⟩
    · exact ⟨5, _, rfl⟩
  obtain ⟨t0, ty, ht⟩ := ht
  exact va_alen hx hb hK hP 0 t0 rfl ht (by rw [e3]) hd h9
theorem upd_x3 {f : Nat → Int32} {j : Nat} {v : Int32} {g : Nat → Int32} (h : ∀ k, g k = if k = j then v else f k) : upd f j v = g := by
  funext k
  rw [h]
  rfl
/-- behind a store into a row of ints: the world -/
theorem xWd.setI {ad : Nat → Nat → Nat} {H H1 : Heap} {q0 ci a j : Nat} {v : Int32} (g2 : xWd D cA ad A0 M H) (ha : a < gA M ci) (hci : ci = 20 ∨ ci = 22 ∨ ci = 23) (hq : (xwl M)[q0]? = some (ci, a)) (hv : ci = 22 → xbool v = true)
    (hP : va_P D vwCl ((xws cA ad M).set q0 (ad ci a, .inl (cA ci, gN M ci a, .inl (upd (gI M ci a) j v)))) H1) : xWd D cA ad A0 (sI M ci a j v) H1 := by
  refine g2.set ha hq ?_ hP ?_ (fun _ => rfl) (fun cx sx k s' h hr => g2.2.2.1 cx sx k s' h hr) ?_
  · rw [xcell_arr hci]
    congr 2
    show _ = (_, _)
    congr 1
    exact congrArg _ (upd_x3 (fun k => by
      rw [gI_sI_x]
      by_cases h : k = j
      · rw [if_pos ⟨rfl, rfl, h⟩, if_pos h]
      · rw [if_neg (fun z => h z.2.2), if_neg h]))
  · intro cx sx hsx hne
    refine xcell_congr ?_ rfl rfl rfl (fun _ _ _ => rfl)
    funext k
    rw [gI_sI_x, if_neg (fun z => hne ⟨z.1, z.2.1⟩)]
  · intro sx k hsx
    rw [gI_sI_x]
    split
    · rename_i z; exact hv z.1.symm
    · exact g2.2.2.2 sx k hsx
theorem xWd.setL {ad : Nat → Nat → Nat} {H H1 : Heap} {q0 a j : Nat} {v : Int64} (g2 : xWd D cA ad A0 M H) (ha : a < gA M 21) (hq : (xwl M)[q0]? = some (21, a))
    (hP : va_P D vwCl ((xws cA ad M).set q0 (ad 21 a, .inl (cA 21, gN M 21 a, .inr (.inl (vp_updL (gL M 21 a) j v))))) H1) : xWd D cA ad A0 (sL M 21 a j v) H1 := by
  refine g2.set ha hq ?_ hP ?_ (fun _ => rfl) (fun cx sx k s' h hr => g2.2.2.1 cx sx k s' h hr) (fun sx k hsx => g2.2.2.2 sx k hsx)
  · rw [xcell_arrL]
    have : vp_updL (gL M 21 a) j v = gL (sL M 21 a j v) 21 a := by
      funext k
      rw [gL_sL_x]
      unfold vp_updL
      by_cases h : k = j
      · rw [if_pos h, if_pos ⟨rfl, rfl, h⟩]
      · rw [if_neg h, if_neg (fun z => h z.2.2)]
    rw [this]
    rfl
  · intro cx sx hsx hne
    refine xcell_congr rfl ?_ rfl rfl (fun _ _ _ => rfl)
    funext k
    rw [gL_sL_x, if_neg (fun z => hne ⟨z.1, z.2.1⟩)]
theorem xWd.setR {ad : Nat → Nat → Nat} {H H1 : Heap} {q0 ci a j w : Nat} (g2 : xWd D cA ad A0 M H) (ha : a < gA M ci) (hci : ci = 24 ∨ ci = 25) (hq : (xwl M)[q0]? = some (ci, a)) (hw : w < gA M (xelt ci))
    (hP : va_P D vwCl ((xws cA ad M).set q0 (ad ci a, .inl (cA ci, gN M ci a, .inr (.inr (.inr (.inr (va_up (fun k => (gR M ci a k).map (ad (xelt ci))) j (some (ad (xelt ci) w)))))))) ) H1) : xWd D cA ad A0 (sR M ci a j (some w)) H1 := by
  refine g2.set ha hq ?_ hP ?_ (fun _ => rfl) ?_ (fun sx k hsx => g2.2.2.2 sx k hsx)
  · rw [xcell_arrR hci]
    have : va_up (fun k => (gR M ci a k).map (ad (xelt ci))) j (some (ad (xelt ci) w)) = (fun k => (gR (sR M ci a j (some w)) ci a k).map (ad (xelt ci))) := by
      funext k
      show _ = (gR (sR M ci a j (some w)) ci a k).map (ad (xelt ci))
      rw [gR_sR_x]
      unfold va_up
      by_cases h : k = j
      · rw [if_pos h, if_pos ⟨rfl, rfl, h⟩]; rfl
      · rw [if_neg h, if_neg (fun z => h z.2.2)]
    rw [this]
    rfl
  · intro cx sx hsx hne
    refine xcell_congr rfl rfl ?_ rfl (fun _ _ _ => rfl)
    funext k
    rw [gR_sR_x, if_neg (fun z => hne ⟨z.1, z.2.1⟩)]
  · intro cx sx k s' h hr
    rw [gR_sR_x] at hr
    split at hr
    · rename_i z
      obtain ⟨rfl, rfl, rfl⟩ := z
      cases hr
      unfold xrt
      rw [if_neg (by omega)]
      exact hw
    · exact g2.2.2.1 cx sx k s' h hr
theorem vok_same {M' : xM} (h : ∀ c, gA M' c = gA M c) {v : xV} (hv : vok M v) : vok M' v := by
  rcases v with x | x | ⟨cx, o⟩
  · trivial
  · trivial
  · cases o with
    | none => trivial
    | some sx =>
      rcases hv with hw | hw
      · left; rw [h]; exact hw
      · exact Or.inr hw
theorem xs_iast (X : xCtx p R s m args c D cA A0 sA nL cc own Ts mcT msT) {i v : Int32} {a : Nat} (hd : decode cc pc = .ok (.iastore, 1)) (hi : xin i (gN M 20 a) = true) (k : xWx p l e R s m args below meth c D cA A0 sA M0 ad0 nL Z mcT msT (pc + 1) bc bs ls st (sI M 20 a (xi i) v)) : xWx p l e R s m args below meth c D cA A0 sA M0 ad0 nL Z mcT msT pc bc bs ls (.inl v :: .inl i :: .inr (.inr (20, some a)) :: st) M := by
  obtain ⟨hx, hb, hml, ho, hts, hK, hA, hmc, hms, hfr, hlo⟩ := X
  intro ad H locs arr cells slots g1 g2 g3 g4 g5 g6 g7 g8
  have ha := vok_ref g6.tail.tail.head (by omega)
  obtain ⟨q0, hq, hq2⟩ := g2.pos ha
  rw [xcell_arr (by omega)] at hq2
  refine va_iast hx hb hK g2.P g2.dis g3 q0 0 hq2 rfl (xin_vp hi) hd (fun H1 locs1 hP1 _ hS1 => ?_)
  exact k ad H1 locs1 arr cells slots g1 (g2.setI ha (by omega) hq (fun z => by omega) hP1) hS1 g4 (fun q hq => vok_same (fun _ => rfl) (g5 q hq)) (fun q hq => vok_same (fun _ => rfl) (g6.tail.tail.tail q hq)) g7 g8
theorem xs_zast (X : xCtx p R s m args c D cA A0 sA nL cc own Ts mcT msT) {i v : Int32} {a : Nat} (hd : decode cc pc = .ok (.bastore, 1)) (hi : xin i (gN M 22 a) = true) (hv : xbool v = true) (k : xWx p l e R s m args below meth c D cA A0 sA M0 ad0 nL Z mcT msT (pc + 1) bc bs ls st (sI M 22 a (xi i) v)) : xWx p l e R s m args below meth c D cA A0 sA M0 ad0 nL Z mcT msT pc bc bs ls (.inl v :: .inl i :: .inr (.inr (22, some a)) :: st) M := by
  obtain ⟨hx, hb, hml, ho, hts, hK, hA, hmc, hms, hfr, hlo⟩ := X
  intro ad H locs arr cells slots g1 g2 g3 g4 g5 g6 g7 g8
  have ha := vok_ref g6.tail.tail.head (by omega)
  obtain ⟨q0, hq, hq2⟩ := g2.pos ha
  rw [xcell_arr (by omega)] at hq2
  have e1 : vp_nar .boolean v = v := by unfold vp_nar; rw [narrow_bool hv]
  refine va_zast hx hb hK g2.P g2.dis g3 q0 2 hq2 rfl (xin_vp hi) hd (fun H1 locs1 hP1 _ hS1 => ?_)
  rw [e1] at hP1
  exact k ad H1 locs1 arr cells slots g1 (g2.setI ha (by omega) hq (fun _ => hv) hP1) hS1 g4 (fun q hq => vok_same (fun _ => rfl) (g5 q hq)) (fun q hq => vok_same (fun _ => rfl) (g6.tail.tail.tail q hq)) g7 g8
theorem xs_cast (X : xCtx p R s m args c D cA A0 sA nL cc own Ts mcT msT) {i v : Int32} {a : Nat} (hd : decode cc pc = .ok (.castore, 1)) (hi : xin i (gN M 23 a) = true) (hv : xchar v = true) (k : xWx p l e R s m args below meth c D cA A0 sA M0 ad0 nL Z mcT msT (pc + 1) bc bs ls st (sI M 23 a (xi i) v)) : xWx p l e R s m args below meth c D cA A0 sA M0 ad0 nL Z mcT msT pc bc bs ls (.inl v :: .inl i :: .inr (.inr (23, some a)) :: st) M := by
  obtain ⟨hx, hb, hml, ho, hts, hK, hA, hmc, hms, hfr, hlo⟩ := X
  intro ad H locs arr cells slots g1 g2 g3 g4 g5 g6 g7 g8
  have ha := vok_ref g6.tail.tail.head (by omega)
  obtain ⟨q0, hq, hq2⟩ := g2.pos ha
  rw [xcell_arr (by omega)] at hq2
  have e1 : vp_nar .char v = v := by unfold vp_nar; rw [(narrow_char hv).1]
  refine va_cast hx hb hK g2.P g2.dis g3 q0 3 hq2 rfl (xin_vp hi) hd (fun H1 locs1 hP1 _ hS1 => ?_)
  rw [e1] at hP1
  exact k ad H1 locs1 arr cells slots g1 (g2.setI ha (by omega) hq (fun z => by omega) hP1) hS1 g4 (fun q hq => vok_same (fun _ => rfl) (g5 q hq)) (fun q hq => vok_same (fun _ => rfl) (g6.tail.tail.tail q hq)) g7 g8
theorem xs_last (X : xCtx p R s m args c D cA A0 sA nL cc own Ts mcT msT) {i : Int32} {v : Int64} {a : Nat} (hd : decode cc pc = .ok (.lastore, 1)) (hi : xin i (gN M 21 a) = true) (k : xWx p l e R s m args below meth c D cA A0 sA M0 ad0 nL Z mcT msT (pc + 1) bc bs ls st (sL M 21 a (xi i) v)) : xWx p l e R s m args below meth c D cA A0 sA M0 ad0 nL Z mcT msT pc bc bs ls (.inr (.inl v) :: .inl i :: .inr (.inr (21, some a)) :: st) M := by
  obtain ⟨hx, hb, hml, ho, hts, hK, hA, hmc, hms, hfr, hlo⟩ := X
  intro ad H locs arr cells slots g1 g2 g3 g4 g5 g6 g7 g8
  have ha := vok_ref g6.tail.tail.head (by omega)
  obtain ⟨q0, hq, hq2⟩ := g2.pos ha
  rw [xcell_arrL] at hq2
  refine va_last hx hb hK g2.P g2.dis g3 q0 1 hq2 rfl (xin_vp hi) hd (fun H1 locs1 hP1 _ hS1 => ?_)
  exact k ad H1 locs1 arr cells slots g1 (g2.setL ha hq hP1) hS1 g4 (fun q hq => vok_same (fun _ => rfl) (g5 q hq)) (fun q hq => vok_same (fun _ => rfl) (g6.tail.tail.tail q hq)) g7 g8
theorem xs_aast (X : xCtx p R s m args c D cA A0 sA nL cc own Ts mcT msT) {i : Int32} {a w ci : Nat} (hci : ci = 24 ∨ ci = 25) (hd : decode cc pc = .ok (.aastore, 1)) (hi : xin i (gN M ci a) = true) (k : xWx p l e R s m args below meth c D cA A0 sA M0 ad0 nL Z mcT msT (pc + 1) bc bs ls st (sR M ci a (xi i) (some w))) : xWx p l e R s m args below meth c D cA A0 sA M0 ad0 nL Z mcT msT pc bc bs ls (.inr (.inr (xelt ci, some w)) :: .inl i :: .inr (.inr (ci, some a)) :: st) M := by
  obtain ⟨hx, hb, hml, ho, hts, hK, hA, hmc, hms, hfr, hlo⟩ := X
  intro ad H locs arr cells slots g1 g2 g3 g4 g5 g6 g7 g8
  have ha := vok_ref g6.tail.tail.head (by omega)
  have hw := vok_ref g6.head (by rcases hci with rfl | rfl <;> decide)
  obtain ⟨q0, hq, hq2⟩ := g2.pos ha
  obtain ⟨q1, hq1, hq3⟩ := g2.pos hw
  rw [xcell_arrR hci] at hq2
  rw [xcell_obj (by rcases hci with rfl | rfl <;> decide)] at hq3
  have key : ∀ (H1 : Heap) (locs1 : List Loc), va_P D vwCl ((xws cA ad M).set q0 (ad ci a, .inl (cA ci, gN M ci a, .inr (.inr (.inr (.inr (va_up (fun k => (gR M ci a k).map (ad (xelt ci))) i.toNatClampNeg (some (ad (xelt ci) w)))))))) ) H1 → va_D A0 ((xws cA ad M).set q0 (ad ci a, .inl (cA ci, gN M ci a, .inr (.inr (.inr (.inr (va_up (fun k => (gR M ci a k).map (ad (xelt ci))) i.toNatClampNeg (some (ad (xelt ci) w)))))))) ) → va_S A0 s.heap H1 locs1 → W p l e R s m args below meth c H1 locs1 cells slots Z (F0 m (pc + 1) arr (st.map (xcv ad))) := by
    intro H1 locs1 hP1 _ hS1
    exact k ad H1 locs1 arr cells slots g1 (g2.setR ha hci hq hw hP1) hS1 g4 (fun q hq => vok_same (fun _ => rfl) (g5 q hq)) (fun q hq => vok_same (fun _ => rfl) (g6.tail.tail.tail q hq)) g7 g8
  rcases hci with rfl | rfl
  · exact va_astq hx hb hK g2.P g2.dis g3 q0 4 q1 2 (r := (RX2, TX2, 16)) hq2 rfl hq3 rfl (xin_vp hi) hd key
  · exact va_astq hx hb hK g2.P g2.dis g3 q0 5 q1 1 (r := (RX1, TX1, 4)) hq2 rfl hq3 rfl (xin_vp hi) hd key
end XARR
