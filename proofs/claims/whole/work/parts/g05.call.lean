/-! ===== calls: contracts out of worlds ===== -/
/-- the cells that a method may change: its world's, and those that it makes -/
def xA (ad : Nat → Nat → Nat) (M : xM) (sz : Nat) : Nat → Prop := fun q => (∃ cx sx, sx < gA M cx ∧ q = ad cx sx) ∨ sz ≤ q
def xPre (D : va_G) (cA : Nat → ClassId) (sA : Nat → Nat) (ad : Nat → Nat → Nat) (M : xM) (sz : Nat) : State → Prop := fun U => U.heap.size = sz ∧ xWd D cA ad (fun _ => True) M U.heap ∧ va_K D vwCl (xtys cA) U ∧ xStr sA (xA ad M sz) U U.heap
def xPost (D : va_G) (cA : Nat → ClassId) (sA : Nat → Nat) (ad : Nat → Nat → Nat) (M : xM) (sz : Nat) (v : Option xV) (M' : xM) : Array Value → State → Outcome → State → Prop := fun _ st oc t =>
  (∃ ad' : Nat → Nat → Nat, oc = .returned (v.map (xcv ad')) ∧ (∀ q, ad' 30 q = sA q) ∧ (∀ cx sx, sx < gA M cx → sx < gA M' cx ∧ ad' cx sx = ad cx sx) ∧ xWd D cA ad' (xA ad M sz) M' t.heap ∧ ∀ w, v = some w → vok M' w) ∧ va_F (xA ad M sz) st t
def xpush (v : Option xV) (rest : List xV) : List xV := match v with
  | none => rest
  | some w => w :: rest
def xRoom (h mc ms : Nat) : Room := { frames := h + 1, cells := mc, slots := ms, locals := 60 * (h + 1) }
/-- a method's contract at one world, one row of arguments, one answer -/
def xMet (l : Launch) (D : va_G) (cA : Nat → ClassId) (sA : Nat → Nat) (y : MethodName) (cc : ByteArray) (nL : Nat) (ret : Option FieldType) (W0 : List Cond) (h mc ms : Nat) (as : List xV) (M : xM) (v : Option xV) (M' : xM) : Prop :=
  ∀ (ad : Nat → Nat → Nat) (sz : Nat), (∀ q, ad 30 q = sA q) → xokS M as →
    Met l y (.code y cc nL ret :: W0) (xRoom h mc ms) (va_Pc (as.map (xcv ad)) (xPre D cA sA ad M sz)) (xPost D cA sA ad M sz v M') mc ms (xA ad M sz)
theorem vok_le {M M' : xM} (h : ∀ c, gA M c ≤ gA M' c) {v : xV} (hv : vok M v) : vok M' v := by
  rcases v with x | x | ⟨cx, o⟩
  · trivial
  · trivial
  · cases o with
    | none => trivial
    | some sx =>
      rcases hv with hw | hw
      · left; exact Nat.lt_of_lt_of_le hw (h cx)
      · exact Or.inr hw
theorem xcv_ext {M : xM} {ad ad' : Nat → Nat → Nat} (h : ∀ cx sx, sx < gA M cx → ad' cx sx = ad cx sx) (h30 : ∀ q, ad' 30 q = ad 30 q) {v : xV} (hv : vok M v) : xcv ad' v = xcv ad v := by
  rcases v with x | x | ⟨cx, o⟩
  · rfl
  · rfl
  · cases o with
    | none => rfl
    | some sx =>
      show Value.ref _ = Value.ref _
      rcases hv with hw | hw
      · rw [h cx sx hw]
      · subst hw; rw [h30]
section XCALL
variable {p : Program} {l : Launch} {e : Env} {R : Room} {s : State} {m : MethodId} {args : Array Value} {below : List Frame} {meth : Method} {c : Code} {D : va_G} {cA : Nat → ClassId} {A0 : Nat → Prop} {sA : Nat → Nat} {M0 : xM} {ad0 : Nat → Nat → Nat} {nL : Nat} {cc : ByteArray} {own : String} {Ts : List Cond} {Z : State → Prop} {mcT msT : Nat}
variable {pc bc bs : Nat} {ls : xLs} {st : List xV} {M : xM}
theorem xblind {as : List Value} {ad : Nat → Nat → Nat} {sz : Nat} : FrameBlind (va_Pc as (xPre D cA sA ad M sz)) := by
  intro a U g mk q
  obtain ⟨q0, q1, qP, qK, qS⟩ := q
  exact ⟨q0, q1, qP, va_K.moved (u := U) (U := U.calling g mk a) (Vm.Alike.refl U.vm) qK, xStr.same (s := U) (U := U.calling g mk a) rfl qS⟩
/-- behind a call -/
theorem xs_back {rest : List xV} {arr : Array Slot} {ad : Nat → Nat → Nat} {H : Heap} {locs : List Loc} {cells slots kc ks : Nat} {v : Option xV} {M' : xM} {stk : List Value} {a : Array Value}
    (hA : ∀ q : Nat, s.heap.size ≤ q → A0 q) (g1 : xFix sA M0 ad0 ad M) (g2 : xWd D cA ad A0 M H) (g3 : va_S A0 s.heap H locs) (g4 : lv_has arr nL (xlc ad ls)) (g5 : xokL M ls) (g6 : xokS M rest) (g7 : cells + bc ≤ mcT) (g8 : slots + bs ≤ msT) (hkc : kc ≤ bc) (hks : ks ≤ bs)
    (hr : va_Run p l e R s m args below meth c H locs cells slots kc ks (F0 m pc arr stk) (rest.map (xcv ad)) (xPost D cA sA ad M H.size v M' a) (xA ad M H.size))
    (k : xWx p l e R s m args below meth c D cA A0 sA M0 ad0 nL Z mcT msT (pc + 3) (bc - kc) (bs - ks) ls (xpush v rest) M') : W p l e R s m args below meth c H locs cells slots Z (F0 m pc arr stk) := by
  intro T hT X
  obtain ⟨v0, st₀, t, T', L, h0, X', hL, e1, e2, ⟨⟨ad', r1, r2, r3, r4, hvo⟩, r5, r6⟩, sts⟩ := hr T hT X
  rw [h0] at r5 r6
  have hmono : ∀ cx, gA M cx ≤ gA M' cx := fun cx => Nat.le_of_not_lt (fun hlt => by have := (r3 cx (gA M' cx) hlt).1; omega)
  have hxA : ∀ q, q < s.heap.size → ¬ A0 q → ¬ xA ad M H.size q := by
    intro q hq hn hx
    rcases hx with ⟨cx, sx, h1, rfl⟩ | h1
    · exact hn (g2.1 cx sx h1).2.2
    · have := g3.1; omega
  have hxA2 : ∀ q, xA ad M H.size q → A0 q := by
    intro q hx
    rcases hx with ⟨cx, sx, h1, rfl⟩ | h1
    · exact (g2.1 cx sx h1).2.2
    · exact hA q (Nat.le_trans g3.1 h1)
  have hS : va_S A0 s.heap t.heap (locs ++ L) := by
    refine ⟨Nat.le_trans g3.1 r5, fun q h1 h2 => ?_, fun q hq => ?_⟩
    · rw [r6 q (Nat.lt_of_lt_of_le h1 g3.1) (hxA q h1 h2)]
      exact g3.2.1 q h1 h2
    · rcases List.mem_append.mp hq with h | h
      · exact g3.2.2 q h
      · exact hxA2 _ (hL q h)
  have hW : xWd D cA ad' A0 M' t.heap := ⟨fun cx sx h => ⟨(r4.1 cx sx h).1, (r4.1 cx sx h).2.1, hxA2 _ (r4.1 cx sx h).2.2⟩, r4.2⟩
  have ext : ∀ w, vok M w → xcv ad' w = xcv ad w := fun w hw => xcv_ext (fun cx sx h => (r3 cx sx h).2) (fun q => by rw [r2, g1.1]) hw
  have hl : lv_has arr nL (xlc ad' ls) := by
    have : xlc ad' ls = xlc ad ls := List.map_congr_left (fun w hw => by rw [ext _ (g5 w hw)])
    rw [this]; exact g4
  have hst : rest.map (xcv ad') = rest.map (xcv ad) := List.map_congr_left (fun w hw => ext w (g6 w hw))
  have hfix : xFix sA M0 ad0 ad' M' := ⟨r2, fun cx sx h => ⟨(r3 cx sx (g1.2 cx sx h).1).1, ((r3 cx sx (g1.2 cx sx h).1).2).trans (g1.2 cx sx h).2⟩⟩
  have hv0 : v0 = v.map (xcv ad') := Outcome.returned.inj r1
  have key : W p l e R s m args below meth c t.heap (locs ++ L) (cells + kc) (slots + ks) Z (F0 m (pc + 3) arr (v0.toList ++ rest.map (xcv ad))) := by
    subst hv0
    cases v with
    | none =>
      have h9 := k ad' t.heap (locs ++ L) arr (cells + kc) (slots + ks) hfix hW hS hl (fun q hq => vok_le hmono (g5 q hq)) (fun q hq => vok_le hmono (g6 q hq)) (by omega) (by omega)
      simp only [xpush] at h9
      rw [hst] at h9
      exact h9
    | some w =>
      have h9 := k ad' t.heap (locs ++ L) arr (cells + kc) (slots + ks) hfix hW hS hl (fun q hq => vok_le hmono (g5 q hq)) (xokS.cons (hvo w rfl) (fun q hq => vok_le hmono (g6 q hq))) (by omega) (by omega)
      simp only [xpush] at h9
      rw [List.map_cons, hst] at h9
      exact h9
  obtain ⟨t2, a1, b1⟩ := key T' e1 X'
  exact ⟨t2, sts t2 a1, b1⟩
/-- what a call's words are, by its kind: 0 virtual, 1 special, 2 static -/
def xLink (Ts : List Cond) (own : String) (idx kd : Nat) (y : MethodName) (n : Nat) : Prop :=
  match kd with
  | 0 => (Cond.methodLink own idx y ∈ Ts ∨ ∃ host, Cond.methodLinkNest own idx y host ∈ xNwL) ∧ Cond.instanceMethod y ∈ Ts ∧ Cond.selects y.cls y y ∈ Ts ∧ Cond.initialized y.cls ∈ Ts ∧ ∃ ci < 13, ∃ (T : u_T) (N : Nat), vwCl[ci]? = some (y.cls, T, N)
  | 1 => (Cond.methodLink own idx y ∈ Ts ∨ ∃ host, Cond.methodLinkNest own idx y host ∈ xNwL) ∧ Cond.instanceMethod y ∈ Ts ∧ Cond.initialized y.cls ∈ Ts ∧ y.name = "<init>"
  | _ => Cond.methodLink own idx y ∈ Ts ∧ Cond.static y ∈ Ts ∧ Cond.initialized y.cls ∈ Ts
theorem xs_call (X : xCtx p R s m args c D cA A0 sA nL cc own Ts mcT msT) {idx kd n nL2 h kc ks : Nat} {y : MethodName} {cc2 : ByteArray} {ret2 : Option FieldType} {W0 : List Cond} {as rest : List xV} {v : Option xV} {M' : xM} {ins : Instr}
    (hM : xMet l D cA sA y cc2 nL2 ret2 W0 h kc ks as M v M') (hG : GoodIn Ts (Cond.code y cc2 nL2 ret2 :: W0)) (hl : xLink Ts own idx kd y n)
    (hy : y.cls ≠ "java/lang/invoke/MethodHandle" ∧ y.cls ≠ "java/lang/invoke/VarHandle" ∧ (parseMethodDescriptor y.desc).map (fun d => d.parameters.length) = some n) (hret : kd = 1 → ret2 = none)
    (hn : as.length = if kd = 2 then n else n + 1) (hrcv : kd ≠ 2 → ∃ (ci a : Nat) (as' : List xV), as = .inr (.inr (ci, some a)) :: as' ∧ ci < 13 ∧ (kd = 0 → ∃ (T : u_T) (N : Nat), vwCl[ci]? = some (y.cls, T, N)))
    (hins : ins = if kd = 0 then .invokevirtual idx else if kd = 1 then .invokespecial idx else .invokestatic idx) (hkd : kd < 3) (hd : decode cc pc = .ok (ins, 3)) (hroom : h + 2 ≤ R.frames ∧ 60 * (h + 2) ≤ R.locals ∧ nL2 ≤ 40) (hcat : xcats rest ≤ 8) (hkc : kc ≤ bc) (hks : ks ≤ bs)
    (k : xWx p l e R s m args below meth c D cA A0 sA M0 ad0 nL Z mcT msT (pc + 3) (bc - kc) (bs - ks) ls (xpush v rest) M') : xWx p l e R s m args below meth c D cA A0 sA M0 ad0 nL Z mcT msT pc bc bs ls (as.reverse ++ rest) M := by
  obtain ⟨hx, hb, hml, ho, hts, hK, hA, hmc, hms, hfr, hlo⟩ := X
  intro ad H locs arr cells slots g1 g2 g3 g4 g5 g6 g7 g8
  have hMet := hM
  have hoa : xokS M as := fun w hw => g6 w (List.mem_append_left _ (List.mem_reverse.mpr hw))
  have hor : xokS M rest := fun w hw => g6 w (List.mem_append_right _ hw)
  have hMt := hMet ad H.size g1.1 hoa
  have hxA2 : ∀ q, xA ad M H.size q → A0 q := by
    intro q hx
    rcases hx with ⟨cx, sx, h1, rfl⟩ | h1
    · exact (g2.1 cx sx h1).2.2
    · exact hA q (Nat.le_trans g3.1 h1)
  have hpre : ∀ U : State, U.heap = H → s.WarmedH U.vm → va_Pc (as.map (xcv ad)) (xPre D cA sA ad M H.size) (as.map (xcv ad)).toArray U := by
    intro U hU hWm
    exact ⟨rfl, by rw [hU], by rw [hU]; exact ⟨fun cx sx h => ⟨(g2.1 cx sx h).1, (g2.1 cx sx h).2.1, trivial⟩, g2.2⟩, va_K.moved hWm.alike hK, by rw [hU]; exact (((hlo.2.kept (fun a h1 h2 => g3.2.1 a h1 h2)).narrow hxA2).warm hWm)⟩
  have hsum : 2 * (F0 m pc arr ((as.reverse ++ rest).map (xcv ad))).monitorRoom + ((rest.map (xcv ad)).map fun v => v.category).sum ≤ 8 := by
    refine lv_room ?_
    have : ((rest.map (xcv ad)).map fun v => v.category).sum = xcats rest := by
      clear hcat hor g6 k
      induction rest with
      | nil => rfl
      | cons w r ih => simp only [List.map_cons, List.sum_cons, xcat_cv, xcats]; rw [ih]
    rw [this]; exact hcat
  have hmap : (as.reverse ++ rest).map (xcv ad) = (as.map (xcv ad)).reverse ++ rest.map (xcv ad) := by rw [List.map_append, List.map_reverse]
  have hws : ∀ w ∈ (Cond.code y cc2 nL2 ret2 :: W0), ∀ (a' : Array Value) (U : State), s.WarmedH U.vm → w.before a' U = true := pay_in hts hG
  have hroom2 : (xRoom h kc ks).frames + 1 ≤ R.frames ∧ 8 + (nL2 + 11) + (xRoom h kc ks).locals ≤ R.locals := ⟨hroom.1, by show 8 + (nL2 + 11) + 60 * (h + 1) ≤ _; omega⟩
  have hcf : CallFix p m c cc nL s args Ts own := ⟨hx, hb, hml, ho, hts⟩
  have cellsok : cells + kc ≤ R.cells ∧ slots + ks ≤ R.slots := ⟨by omega, by omega⟩
  refine xs_back hA g1 g2 g3 g4 g5 hor g7 g8 hkc hks (a := (as.map (xcv ad)).toArray) ?_ k
  have hcodeT : (Cond.code y cc2 nL2 ret2).before args s = true := hts _ (hG _ List.mem_cons_self).1
  match kd, hl, hn, hrcv, hins, hret, hkd with
  | 0, hl, hn, hrcv, hins, hret, _ =>
    obtain ⟨ci, a, as', rfl, hci, hcl⟩ := hrcv (by decide)
    obtain ⟨T, N, hc⟩ := hcl rfl
    obtain ⟨l1, l2, l3, l4, -⟩ := hl
    have ha : a < gA M ci := vok_ref hoa.head (by omega)
    have hP1 := xP1 g2 ha
    rw [xcell_obj hci] at hP1
    have hrc := va_recv hK hP1 (q0 := 0) hc rfl
    have hlen : (as'.map (xcv ad)).length = n := by rw [List.length_map]; simpa using hn
    have hstk : (F0 m pc arr ((((Sum.inr (Sum.inr (ci, some a)) : xV) :: as').reverse ++ rest).map (xcv ad))).stack = (as'.map (xcv ad)).reverse ++ .ref (ad ci a) :: rest.map (xcv ad) := by
      show List.map (xcv ad) _ = _
      rw [hmap]; simp [xcv]
    rw [if_pos rfl] at hins
    subst hins
    rcases l1 with l1 | ⟨host, l1⟩
    · exact va_runV (As := as'.map (xcv ad)) hcf hMt ⟨callB_of n hts hG rfl rfl rfl (hts _ l4) (hts _ l1) hy hroom2, hts _ l2, hts _ l3⟩ ⟨xblind, hrc, hpre⟩ rfl hlen g4.1 hstk hsum hd cellsok
    · exact va_runVN (As := as'.map (xcv ad)) hcf hMt ⟨va_cnB n hts hG rfl rfl rfl (hlo.2.nw l1) (hts _ l4) hy hroom2, hts _ l2, hts _ l3⟩ ⟨xblind, hrc, hpre⟩ rfl hlen g4.1 hstk hsum hd cellsok
  | 1, hl, hn, hrcv, hins, hret, _ =>
    obtain ⟨ci, a, as', rfl, hci, -⟩ := hrcv (by decide)
    obtain ⟨l1, l2, l3, l4⟩ := hl
    have hr0 := hret rfl
    subst hr0
    have hlen : (as'.map (xcv ad)).length = n := by rw [List.length_map]; simpa using hn
    have hstk : (F0 m pc arr ((((Sum.inr (Sum.inr (ci, some a)) : xV) :: as').reverse ++ rest).map (xcv ad))).stack = (as'.map (xcv ad)).reverse ++ .ref (ad ci a) :: rest.map (xcv ad) := by
      show List.map (xcv ad) _ = _
      rw [hmap]; simp [xcv]
    rw [if_neg (by decide), if_pos rfl] at hins
    subst hins
    rcases l1 with l1 | ⟨host, l1⟩
    · exact va_runI (As := as'.map (xcv ad)) hcf hMt ⟨callB_of n hts hG rfl rfl rfl (hts _ l3) (hts _ l1) hy hroom2, l4, hts _ l2⟩ ⟨xblind, hpre⟩ rfl hlen g4.1 hstk hsum hd cellsok
    · exact va_runIN (As := as'.map (xcv ad)) hcf hMt ⟨va_cnB n hts hG rfl rfl rfl (hlo.2.nw l1) (hts _ l3) hy hroom2, l4, hts _ l2⟩ ⟨xblind, hpre⟩ rfl hlen g4.1 hstk hsum hd cellsok
  | 2, hl, hn, hrcv, hins, hret, _ =>
    obtain ⟨l1, l2, l3⟩ := hl
    have hlen : (as.map (xcv ad)).length = n := by rw [List.length_map]; simpa using hn
    have hstk : (F0 m pc arr ((as.reverse ++ rest).map (xcv ad))).stack = (as.map (xcv ad)).reverse ++ rest.map (xcv ad) := hmap
    rw [if_neg (by decide), if_neg (by decide)] at hins
    subst hins
    exact va_runS (As := as.map (xcv ad)) hcf hMt ⟨callB_of n hts hG rfl rfl rfl (hts _ l3) (hts _ l1) hy hroom2, hts _ l2⟩ ⟨xblind, hpre⟩ rfl hlen g4.1 hstk hsum hd cellsok
end XCALL
