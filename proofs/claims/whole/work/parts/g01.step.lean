/-! ===== an instruction a row: the runner's step is the machine's ===== -/
def xokS (M : xM) (st : List xV) : Prop := ∀ v ∈ st, vok M v
theorem xokS.cons {M : xM} {v : xV} {st : List xV} (h1 : vok M v) (h2 : xokS M st) : xokS M (v :: st) := fun w hw => by
  rcases List.mem_cons.mp hw with rfl | h
  · exact h1
  · exact h2 w h
theorem xokS.tail {M : xM} {v : xV} {st : List xV} (h : xokS M (v :: st)) : xokS M st := fun w hw => h w (List.mem_cons_of_mem _ hw)
theorem xokS.head {M : xM} {v : xV} {st : List xV} (h : xokS M (v :: st)) : vok M v := h v List.mem_cons_self
def xokL (M : xM) (ls : xLs) : Prop := ∀ q ∈ ls, vok M q.2
theorem xokL.look {M : xM} {ls : xLs} {i : Nat} {v : xV} (h : xokL M ls) (hl : xlook i ls = some v) : vok M v := h (i, v) (xlook_mem hl)
theorem xokL.set {M : xM} {ls : xLs} {i : Nat} {v : xV} (h : xokL M ls) (hv : vok M v) : xokL M ((i, v) :: xdel i ls) := fun q hq => by
  rcases List.mem_cons.mp hq with rfl | h1
  · exact hv
  · exact h q (xdel_mem h1).1
theorem xokL.set2 {M : xM} {ls : xLs} {i : Nat} {v : xV} (h : xokL M ls) (hv : vok M v) : xokL M ((i, v) :: xdel2 i ls) := fun q hq => by
  rcases List.mem_cons.mp hq with rfl | h1
  · exact hv
  · exact h q (xdel_mem (xdel_mem h1).1).1
/-- what stays fixed while a method runs -/
def xCtx (p : Program) (R : Room) (s : State) (m : MethodId) (args : Array Value) (c : Code) (D : va_G) (cA : Nat → ClassId) (A0 : Nat → Prop) (sA : Nat → Nat) (nL : Nat) (cc : ByteArray) (own : String) (Ts : List Cond) (mcT msT : Nat) : Prop :=
  p.tables.exec = Jvm.exec ∧ c.code = cc ∧ c.maxLocals = nL ∧ s.vm.findClass own = some m.cls ∧ (∀ w ∈ Ts, w.before args s = true) ∧ va_K D vwCl (xtys cA) s ∧ (∀ q : Nat, s.heap.size ≤ q → A0 q) ∧ mcT ≤ R.cells ∧ msT ≤ R.slots ∧ 1 ≤ R.frames ∧ 60 ≤ R.locals ∧ xStr sA A0 s s.heap
/-- texts are where they are, the cells of the start too -/
def xFix (sA : Nat → Nat) (M0 : xM) (ad0 ad : Nat → Nat → Nat) (M : xM) : Prop := (∀ q, ad 30 q = sA q) ∧ ∀ cx sx, sx < gA M0 cx → sx < gA M cx ∧ ad cx sx = ad0 cx sx
/-- from that place, in any world that is M, the machine comes to Z -/
def xWx (p : Program) (l : Launch) (e : Env) (R : Room) (s : State) (m : MethodId) (args : Array Value) (below : List Frame) (meth : Method) (c : Code) (D : va_G) (cA : Nat → ClassId) (A0 : Nat → Prop) (sA : Nat → Nat) (M0 : xM) (ad0 : Nat → Nat → Nat) (nL : Nat) (Z : State → Prop) (mcT msT : Nat) (pc bc bs : Nat) (ls : xLs) (st : List xV) (M : xM) : Prop :=
  ∀ (ad : Nat → Nat → Nat) (H : Heap) (locs : List Loc) (arr : Array Slot) (cells slots : Nat), xFix sA M0 ad0 ad M → xWd D cA ad A0 M H → va_S A0 s.heap H locs → lv_has arr nL (xlc ad ls) → xokL M ls → xokS M st → cells + bc ≤ mcT → slots + bs ≤ msT →
    W p l e R s m args below meth c H locs cells slots Z (F0 m pc arr (st.map (xcv ad)))
section XST
variable {p : Program} {l : Launch} {e : Env} {R : Room} {s : State} {m : MethodId} {args : Array Value} {below : List Frame} {meth : Method} {c : Code} {D : va_G} {cA : Nat → ClassId} {A0 : Nat → Prop} {sA : Nat → Nat} {M0 : xM} {ad0 : Nat → Nat → Nat} {nL : Nat} {cc : ByteArray} {own : String} {Ts : List Cond} {Z : State → Prop} {mcT msT : Nat}
variable {pc bc bs : Nat} {ls : xLs} {st : List xV} {M : xM}

theorem xs_iconst (X : xCtx p R s m args c D cA A0 sA nL cc own Ts mcT msT) {n : Int} {v : Int32} (hd : decode cc pc = .ok (.iconst n, 1)) (hv : (Int32.ofInt n = v)) (k : xWx p l e R s m args below meth c D cA A0 sA M0 ad0 nL Z mcT msT (pc + 1) bc bs ls (.inl v :: st) M) : xWx p l e R s m args below meth c D cA A0 sA M0 ad0 nL Z mcT msT pc bc bs ls st M := by
  obtain ⟨hx, hb, hml, ho, hts, hK, hA, hmc, hms, hfr, hlo⟩ := X
  intro ad H locs arr cells slots g1 g2 g3 g4 g5 g6 g7 g8
  exact lv_iconst hx hb hd hv (k ad H locs arr cells slots g1 g2 g3 g4 g5 (g6.cons trivial) g7 g8)
theorem xs_bipush (X : xCtx p R s m args c D cA A0 sA nL cc own Ts mcT msT) {n : Int} {v : Int32} (hd : decode cc pc = .ok (.bipush n, 2)) (hv : ((Int8.ofInt n).toInt32 = v)) (k : xWx p l e R s m args below meth c D cA A0 sA M0 ad0 nL Z mcT msT (pc + 2) bc bs ls (.inl v :: st) M) : xWx p l e R s m args below meth c D cA A0 sA M0 ad0 nL Z mcT msT pc bc bs ls st M := by
  obtain ⟨hx, hb, hml, ho, hts, hK, hA, hmc, hms, hfr, hlo⟩ := X
  intro ad H locs arr cells slots g1 g2 g3 g4 g5 g6 g7 g8
  exact lv_bipush hx hb hd hv (k ad H locs arr cells slots g1 g2 g3 g4 g5 (g6.cons trivial) g7 g8)
theorem xs_sipush (X : xCtx p R s m args c D cA A0 sA nL cc own Ts mcT msT) {n : Int} {v : Int32} (hd : decode cc pc = .ok (.sipush n, 3)) (hv : ((Int16.ofInt n).toInt32 = v)) (k : xWx p l e R s m args below meth c D cA A0 sA M0 ad0 nL Z mcT msT (pc + 3) bc bs ls (.inl v :: st) M) : xWx p l e R s m args below meth c D cA A0 sA M0 ad0 nL Z mcT msT pc bc bs ls st M := by
  obtain ⟨hx, hb, hml, ho, hts, hK, hA, hmc, hms, hfr, hlo⟩ := X
  intro ad H locs arr cells slots g1 g2 g3 g4 g5 g6 g7 g8
  exact lv_sipush hx hb hd hv (k ad H locs arr cells slots g1 g2 g3 g4 g5 (g6.cons trivial) g7 g8)
theorem xs_lconst (X : xCtx p R s m args c D cA A0 sA nL cc own Ts mcT msT) {n : Fin 2} (hd : decode cc pc = .ok (.lconst n, 1)) (k : xWx p l e R s m args below meth c D cA A0 sA M0 ad0 nL Z mcT msT (pc + 1) bc bs ls (.inr (.inl (Int64.ofNat (n : Nat))) :: st) M) : xWx p l e R s m args below meth c D cA A0 sA M0 ad0 nL Z mcT msT pc bc bs ls st M := by
  obtain ⟨hx, hb, hml, ho, hts, hK, hA, hmc, hms, hfr, hlo⟩ := X
  intro ad H locs arr cells slots g1 g2 g3 g4 g5 g6 g7 g8
  exact lv_lconst hx hb hd rfl (k ad H locs arr cells slots g1 g2 g3 g4 g5 (g6.cons trivial) g7 g8)
theorem xs_null (X : xCtx p R s m args c D cA A0 sA nL cc own Ts mcT msT) {t : Nat} (hd : decode cc pc = .ok (.aconst_null, 1)) (k : xWx p l e R s m args below meth c D cA A0 sA M0 ad0 nL Z mcT msT (pc + 1) bc bs ls (.inr (.inr (t, none)) :: st) M) : xWx p l e R s m args below meth c D cA A0 sA M0 ad0 nL Z mcT msT pc bc bs ls st M := by
  obtain ⟨hx, hb, hml, ho, hts, hK, hA, hmc, hms, hfr, hlo⟩ := X
  intro ad H locs arr cells slots g1 g2 g3 g4 g5 g6 g7 g8
  exact lv_null hx hb hd (k ad H locs arr cells slots g1 g2 g3 g4 g5 (g6.cons trivial) g7 g8)
theorem xs_iload_n (X : xCtx p R s m args c D cA A0 sA nL cc own Ts mcT msT) {i : Fin 4} {x : Int32} (hd : decode cc pc = .ok (.iload_n i, 1)) (hl : xlook (i : Nat) ls = some (.inl x)) (k : xWx p l e R s m args below meth c D cA A0 sA M0 ad0 nL Z mcT msT (pc + 1) bc bs ls (.inl x :: st) M) : xWx p l e R s m args below meth c D cA A0 sA M0 ad0 nL Z mcT msT pc bc bs ls st M := by
  obtain ⟨hx, hb, hml, ho, hts, hK, hA, hmc, hms, hfr, hlo⟩ := X
  intro ad H locs arr cells slots g1 g2 g3 g4 g5 g6 g7 g8
  exact lv_iload_n hx hb hd rfl (xlook_at g4 hl) (k ad H locs arr cells slots g1 g2 g3 g4 g5 (g6.cons trivial) g7 g8)
theorem xs_iload (X : xCtx p R s m args c D cA A0 sA nL cc own Ts mcT msT) {i : Nat} {x : Int32} (hd : decode cc pc = .ok (.iload i, 2)) (hl : xlook i ls = some (.inl x)) (k : xWx p l e R s m args below meth c D cA A0 sA M0 ad0 nL Z mcT msT (pc + 2) bc bs ls (.inl x :: st) M) : xWx p l e R s m args below meth c D cA A0 sA M0 ad0 nL Z mcT msT pc bc bs ls st M := by
  obtain ⟨hx, hb, hml, ho, hts, hK, hA, hmc, hms, hfr, hlo⟩ := X
  intro ad H locs arr cells slots g1 g2 g3 g4 g5 g6 g7 g8
  exact lv_iload hx hb hd (xlook_at g4 hl) (k ad H locs arr cells slots g1 g2 g3 g4 g5 (g6.cons trivial) g7 g8)
theorem xs_lload_n (X : xCtx p R s m args c D cA A0 sA nL cc own Ts mcT msT) {i : Fin 4} {x : Int64} (hd : decode cc pc = .ok (.lload_n i, 1)) (hl : xlook (i : Nat) ls = some (.inr (.inl x))) (k : xWx p l e R s m args below meth c D cA A0 sA M0 ad0 nL Z mcT msT (pc + 1) bc bs ls (.inr (.inl x) :: st) M) : xWx p l e R s m args below meth c D cA A0 sA M0 ad0 nL Z mcT msT pc bc bs ls st M := by
  obtain ⟨hx, hb, hml, ho, hts, hK, hA, hmc, hms, hfr, hlo⟩ := X
  intro ad H locs arr cells slots g1 g2 g3 g4 g5 g6 g7 g8
  exact lv_lload_n hx hb hd rfl (xlook_at g4 hl) (k ad H locs arr cells slots g1 g2 g3 g4 g5 (g6.cons trivial) g7 g8)
theorem xs_lload (X : xCtx p R s m args c D cA A0 sA nL cc own Ts mcT msT) {i : Nat} {x : Int64} (hd : decode cc pc = .ok (.lload i, 2)) (hl : xlook i ls = some (.inr (.inl x))) (k : xWx p l e R s m args below meth c D cA A0 sA M0 ad0 nL Z mcT msT (pc + 2) bc bs ls (.inr (.inl x) :: st) M) : xWx p l e R s m args below meth c D cA A0 sA M0 ad0 nL Z mcT msT pc bc bs ls st M := by
  obtain ⟨hx, hb, hml, ho, hts, hK, hA, hmc, hms, hfr, hlo⟩ := X
  intro ad H locs arr cells slots g1 g2 g3 g4 g5 g6 g7 g8
  exact lv_lload hx hb hd (xlook_at g4 hl) (k ad H locs arr cells slots g1 g2 g3 g4 g5 (g6.cons trivial) g7 g8)
theorem xs_aload_n (X : xCtx p R s m args c D cA A0 sA nL cc own Ts mcT msT) {i : Fin 4} {cx : Nat} {o : Option Nat} (hd : decode cc pc = .ok (.aload_n i, 1)) (hl : xlook (i : Nat) ls = some (.inr (.inr (cx, o)))) (k : xWx p l e R s m args below meth c D cA A0 sA M0 ad0 nL Z mcT msT (pc + 1) bc bs ls (.inr (.inr (cx, o)) :: st) M) : xWx p l e R s m args below meth c D cA A0 sA M0 ad0 nL Z mcT msT pc bc bs ls st M := by
  obtain ⟨hx, hb, hml, ho, hts, hK, hA, hmc, hms, hfr, hlo⟩ := X
  intro ad H locs arr cells slots g1 g2 g3 g4 g5 g6 g7 g8
  have hv := g5.look hl
  have h0 := xlook_at g4 hl
  have h9 := k ad H locs arr cells slots g1 g2 g3 g4 g5 (g6.cons hv) g7 g8
  cases o with
  | none => exact lv_aload_nN hx hb hd rfl h0 h9
  | some a => exact lv_aload_n hx hb hd rfl h0 h9
theorem xs_aload (X : xCtx p R s m args c D cA A0 sA nL cc own Ts mcT msT) {i : Nat} {cx : Nat} {o : Option Nat} (hd : decode cc pc = .ok (.aload i, 2)) (hl : xlook i ls = some (.inr (.inr (cx, o)))) (k : xWx p l e R s m args below meth c D cA A0 sA M0 ad0 nL Z mcT msT (pc + 2) bc bs ls (.inr (.inr (cx, o)) :: st) M) : xWx p l e R s m args below meth c D cA A0 sA M0 ad0 nL Z mcT msT pc bc bs ls st M := by
  obtain ⟨hx, hb, hml, ho, hts, hK, hA, hmc, hms, hfr, hlo⟩ := X
  intro ad H locs arr cells slots g1 g2 g3 g4 g5 g6 g7 g8
  have hv := g5.look hl
  have h0 := xlook_at g4 hl
  have h9 := k ad H locs arr cells slots g1 g2 g3 g4 g5 (g6.cons hv) g7 g8
  cases o with
  | none => exact lv_aloadN hx hb hd h0 h9
  | some a => exact lv_aload hx hb hd h0 h9
theorem xs_istore_n (X : xCtx p R s m args c D cA A0 sA nL cc own Ts mcT msT) {i : Fin 4} {x : Int32} (hd : decode cc pc = .ok (.istore_n i, 1)) (hn : (i : Nat) < nL) (k : xWx p l e R s m args below meth c D cA A0 sA M0 ad0 nL Z mcT msT (pc + 1) bc bs (((i : Nat), .inl x) :: xdel (i : Nat) ls) st M) : xWx p l e R s m args below meth c D cA A0 sA M0 ad0 nL Z mcT msT pc bc bs ls (.inl x :: st) M := by
  obtain ⟨hx, hb, hml, ho, hts, hK, hA, hmc, hms, hfr, hlo⟩ := X
  intro ad H locs arr cells slots g1 g2 g3 g4 g5 g6 g7 g8
  refine lv_istore_n hx hb hd rfl g4 hn rfl (fun arr2 h2 => ?_)
  exact k ad H locs arr2 cells slots g1 g2 g3 (lv_mono h2 (xdel_lc (v := .inl x))) (g5.set trivial) g6.tail g7 g8
theorem xs_istore (X : xCtx p R s m args c D cA A0 sA nL cc own Ts mcT msT) {i : Nat} {x : Int32} (hd : decode cc pc = .ok (.istore i, 2)) (hn : i < nL) (k : xWx p l e R s m args below meth c D cA A0 sA M0 ad0 nL Z mcT msT (pc + 2) bc bs ((i, .inl x) :: xdel i ls) st M) : xWx p l e R s m args below meth c D cA A0 sA M0 ad0 nL Z mcT msT pc bc bs ls (.inl x :: st) M := by
  obtain ⟨hx, hb, hml, ho, hts, hK, hA, hmc, hms, hfr, hlo⟩ := X
  intro ad H locs arr cells slots g1 g2 g3 g4 g5 g6 g7 g8
  refine lv_istore hx hb hd g4 hn rfl (fun arr2 h2 => ?_)
  exact k ad H locs arr2 cells slots g1 g2 g3 (lv_mono h2 (xdel_lc (v := .inl x))) (g5.set trivial) g6.tail g7 g8
theorem xs_lstore_n (X : xCtx p R s m args c D cA A0 sA nL cc own Ts mcT msT) {i : Fin 4} {x : Int64} (hd : decode cc pc = .ok (.lstore_n i, 1)) (hn : (i : Nat) + 1 < nL) (k : xWx p l e R s m args below meth c D cA A0 sA M0 ad0 nL Z mcT msT (pc + 1) bc bs (((i : Nat), .inr (.inl x)) :: xdel2 (i : Nat) ls) st M) : xWx p l e R s m args below meth c D cA A0 sA M0 ad0 nL Z mcT msT pc bc bs ls (.inr (.inl x) :: st) M := by
  obtain ⟨hx, hb, hml, ho, hts, hK, hA, hmc, hms, hfr, hlo⟩ := X
  intro ad H locs arr cells slots g1 g2 g3 g4 g5 g6 g7 g8
  refine lv_lstore_n hx hb hd rfl g4 hn rfl (fun arr2 h2 => ?_)
  exact k ad H locs arr2 cells slots g1 g2 g3 (lv_mono h2 (xdel2_lc (v := .inr (.inl x)))) (g5.set2 trivial) g6.tail g7 g8
theorem xs_lstore (X : xCtx p R s m args c D cA A0 sA nL cc own Ts mcT msT) {i : Nat} {x : Int64} (hd : decode cc pc = .ok (.lstore i, 2)) (hn : i + 1 < nL) (k : xWx p l e R s m args below meth c D cA A0 sA M0 ad0 nL Z mcT msT (pc + 2) bc bs ((i, .inr (.inl x)) :: xdel2 i ls) st M) : xWx p l e R s m args below meth c D cA A0 sA M0 ad0 nL Z mcT msT pc bc bs ls (.inr (.inl x) :: st) M := by
  obtain ⟨hx, hb, hml, ho, hts, hK, hA, hmc, hms, hfr, hlo⟩ := X
  intro ad H locs arr cells slots g1 g2 g3 g4 g5 g6 g7 g8
  refine lv_lstore hx hb hd g4 hn rfl (fun arr2 h2 => ?_)
  exact k ad H locs arr2 cells slots g1 g2 g3 (lv_mono h2 (xdel2_lc (v := .inr (.inl x)))) (g5.set2 trivial) g6.tail g7 g8
theorem xs_astore_n (X : xCtx p R s m args c D cA A0 sA nL cc own Ts mcT msT) {i : Fin 4} {cx : Nat} {o : Option Nat} (hd : decode cc pc = .ok (.astore_n i, 1)) (hn : (i : Nat) < nL) (k : xWx p l e R s m args below meth c D cA A0 sA M0 ad0 nL Z mcT msT (pc + 1) bc bs (((i : Nat), .inr (.inr (cx, o))) :: xdel (i : Nat) ls) st M) : xWx p l e R s m args below meth c D cA A0 sA M0 ad0 nL Z mcT msT pc bc bs ls (.inr (.inr (cx, o)) :: st) M := by
  obtain ⟨hx, hb, hml, ho, hts, hK, hA, hmc, hms, hfr, hlo⟩ := X
  intro ad H locs arr cells slots g1 g2 g3 g4 g5 g6 g7 g8
  cases o with
  | none =>
    refine lv_astore_nN hx hb hd rfl g4 hn rfl (fun arr2 h2 => ?_)
    exact k ad H locs arr2 cells slots g1 g2 g3 (lv_mono h2 (xdel_lc (v := .inr (.inr (cx, none))))) (g5.set g6.head) g6.tail g7 g8
  | some a =>
    refine lv_astore_n hx hb hd rfl g4 hn rfl (fun arr2 h2 => ?_)
    exact k ad H locs arr2 cells slots g1 g2 g3 (lv_mono h2 (xdel_lc (v := .inr (.inr (cx, some a))))) (g5.set g6.head) g6.tail g7 g8
theorem xs_astore (X : xCtx p R s m args c D cA A0 sA nL cc own Ts mcT msT) {i : Nat} {cx : Nat} {o : Option Nat} (hd : decode cc pc = .ok (.astore i, 2)) (hn : i < nL) (k : xWx p l e R s m args below meth c D cA A0 sA M0 ad0 nL Z mcT msT (pc + 2) bc bs ((i, .inr (.inr (cx, o))) :: xdel i ls) st M) : xWx p l e R s m args below meth c D cA A0 sA M0 ad0 nL Z mcT msT pc bc bs ls (.inr (.inr (cx, o)) :: st) M := by
  obtain ⟨hx, hb, hml, ho, hts, hK, hA, hmc, hms, hfr, hlo⟩ := X
  intro ad H locs arr cells slots g1 g2 g3 g4 g5 g6 g7 g8
  cases o with
  | none =>
    refine lv_astoreN hx hb hd g4 hn rfl (fun arr2 h2 => ?_)
    exact k ad H locs arr2 cells slots g1 g2 g3 (lv_mono h2 (xdel_lc (v := .inr (.inr (cx, none))))) (g5.set g6.head) g6.tail g7 g8
  | some a =>
    refine lv_astore hx hb hd g4 hn rfl (fun arr2 h2 => ?_)
    exact k ad H locs arr2 cells slots g1 g2 g3 (lv_mono h2 (xdel_lc (v := .inr (.inr (cx, some a))))) (g5.set g6.head) g6.tail g7 g8
theorem xs_iinc (X : xCtx p R s m args c D cA A0 sA nL cc own Ts mcT msT) {i : Nat} {n : Int} {x v : Int32} (hd : decode cc pc = .ok (.iinc i n, 3)) (hv : Int32.ofInt n = v) (hn : i < nL) (hl : xlook i ls = some (.inl x)) (k : xWx p l e R s m args below meth c D cA A0 sA M0 ad0 nL Z mcT msT (pc + 3) bc bs ((i, .inl (x + v)) :: xdel i ls) st M) : xWx p l e R s m args below meth c D cA A0 sA M0 ad0 nL Z mcT msT pc bc bs ls st M := by
  obtain ⟨hx, hb, hml, ho, hts, hK, hA, hmc, hms, hfr, hlo⟩ := X
  intro ad H locs arr cells slots g1 g2 g3 g4 g5 g6 g7 g8
  subst hv
  obtain ⟨j, hj⟩ := List.getElem?_of_mem (List.mem_map.mpr ⟨(i, .inl x), xlook_mem hl, rfl⟩ : (i, Value.int x) ∈ xlc ad ls)
  refine lv_iinc hx hb hd g4 hj rfl hn rfl (fun arr2 h2 => ?_)
  exact k ad H locs arr2 cells slots g1 g2 g3 (lv_mono h2 (xdel_lc (v := .inl (x + Int32.ofInt n)))) (g5.set trivial) g6 g7 g8
theorem xs_iadd (X : xCtx p R s m args c D cA A0 sA nL cc own Ts mcT msT) {x y : Int32} (hd : decode cc pc = .ok (.iadd, 1)) (k : xWx p l e R s m args below meth c D cA A0 sA M0 ad0 nL Z mcT msT (pc + 1) bc bs ls (.inl (x + y) :: st) M) : xWx p l e R s m args below meth c D cA A0 sA M0 ad0 nL Z mcT msT pc bc bs ls (.inl y :: .inl x :: st) M := by
  obtain ⟨hx, hb, hml, ho, hts, hK, hA, hmc, hms, hfr, hlo⟩ := X
  intro ad H locs arr cells slots g1 g2 g3 g4 g5 g6 g7 g8
  exact lv_iadd hx hb hd (k ad H locs arr cells slots g1 g2 g3 g4 g5 (g6.tail.tail.cons trivial) g7 g8)
theorem xs_isub (X : xCtx p R s m args c D cA A0 sA nL cc own Ts mcT msT) {x y : Int32} (hd : decode cc pc = .ok (.isub, 1)) (k : xWx p l e R s m args below meth c D cA A0 sA M0 ad0 nL Z mcT msT (pc + 1) bc bs ls (.inl (x - y) :: st) M) : xWx p l e R s m args below meth c D cA A0 sA M0 ad0 nL Z mcT msT pc bc bs ls (.inl y :: .inl x :: st) M := by
  obtain ⟨hx, hb, hml, ho, hts, hK, hA, hmc, hms, hfr, hlo⟩ := X
  intro ad H locs arr cells slots g1 g2 g3 g4 g5 g6 g7 g8
  exact lv_isub hx hb hd (k ad H locs arr cells slots g1 g2 g3 g4 g5 (g6.tail.tail.cons trivial) g7 g8)
theorem xs_imul (X : xCtx p R s m args c D cA A0 sA nL cc own Ts mcT msT) {x y : Int32} (hd : decode cc pc = .ok (.imul, 1)) (k : xWx p l e R s m args below meth c D cA A0 sA M0 ad0 nL Z mcT msT (pc + 1) bc bs ls (.inl (x * y) :: st) M) : xWx p l e R s m args below meth c D cA A0 sA M0 ad0 nL Z mcT msT pc bc bs ls (.inl y :: .inl x :: st) M := by
  obtain ⟨hx, hb, hml, ho, hts, hK, hA, hmc, hms, hfr, hlo⟩ := X
  intro ad H locs arr cells slots g1 g2 g3 g4 g5 g6 g7 g8
  exact lv_imul hx hb hd (k ad H locs arr cells slots g1 g2 g3 g4 g5 (g6.tail.tail.cons trivial) g7 g8)
theorem xs_iand (X : xCtx p R s m args c D cA A0 sA nL cc own Ts mcT msT) {x y : Int32} (hd : decode cc pc = .ok (.iand, 1)) (k : xWx p l e R s m args below meth c D cA A0 sA M0 ad0 nL Z mcT msT (pc + 1) bc bs ls (.inl (x &&& y) :: st) M) : xWx p l e R s m args below meth c D cA A0 sA M0 ad0 nL Z mcT msT pc bc bs ls (.inl y :: .inl x :: st) M := by
  obtain ⟨hx, hb, hml, ho, hts, hK, hA, hmc, hms, hfr, hlo⟩ := X
  intro ad H locs arr cells slots g1 g2 g3 g4 g5 g6 g7 g8
  exact lv_iand hx hb hd (k ad H locs arr cells slots g1 g2 g3 g4 g5 (g6.tail.tail.cons trivial) g7 g8)
theorem xs_ior (X : xCtx p R s m args c D cA A0 sA nL cc own Ts mcT msT) {x y : Int32} (hd : decode cc pc = .ok (.ior, 1)) (k : xWx p l e R s m args below meth c D cA A0 sA M0 ad0 nL Z mcT msT (pc + 1) bc bs ls (.inl (x ||| y) :: st) M) : xWx p l e R s m args below meth c D cA A0 sA M0 ad0 nL Z mcT msT pc bc bs ls (.inl y :: .inl x :: st) M := by
  obtain ⟨hx, hb, hml, ho, hts, hK, hA, hmc, hms, hfr, hlo⟩ := X
  intro ad H locs arr cells slots g1 g2 g3 g4 g5 g6 g7 g8
  exact lv_ior hx hb hd (k ad H locs arr cells slots g1 g2 g3 g4 g5 (g6.tail.tail.cons trivial) g7 g8)
theorem xs_ixor (X : xCtx p R s m args c D cA A0 sA nL cc own Ts mcT msT) {x y : Int32} (hd : decode cc pc = .ok (.ixor, 1)) (k : xWx p l e R s m args below meth c D cA A0 sA M0 ad0 nL Z mcT msT (pc + 1) bc bs ls (.inl (x ^^^ y) :: st) M) : xWx p l e R s m args below meth c D cA A0 sA M0 ad0 nL Z mcT msT pc bc bs ls (.inl y :: .inl x :: st) M := by
  obtain ⟨hx, hb, hml, ho, hts, hK, hA, hmc, hms, hfr, hlo⟩ := X
  intro ad H locs arr cells slots g1 g2 g3 g4 g5 g6 g7 g8
  exact lv_ixor hx hb hd (k ad H locs arr cells slots g1 g2 g3 g4 g5 (g6.tail.tail.cons trivial) g7 g8)
theorem xs_ishl (X : xCtx p R s m args c D cA A0 sA nL cc own Ts mcT msT) {x y : Int32} (hd : decode cc pc = .ok (.ishl, 1)) (k : xWx p l e R s m args below meth c D cA A0 sA M0 ad0 nL Z mcT msT (pc + 1) bc bs ls (.inl (x <<< (y &&& 31)) :: st) M) : xWx p l e R s m args below meth c D cA A0 sA M0 ad0 nL Z mcT msT pc bc bs ls (.inl y :: .inl x :: st) M := by
  obtain ⟨hx, hb, hml, ho, hts, hK, hA, hmc, hms, hfr, hlo⟩ := X
  intro ad H locs arr cells slots g1 g2 g3 g4 g5 g6 g7 g8
  exact lv_ishl hx hb hd (k ad H locs arr cells slots g1 g2 g3 g4 g5 (g6.tail.tail.cons trivial) g7 g8)
theorem xs_ishr (X : xCtx p R s m args c D cA A0 sA nL cc own Ts mcT msT) {x y : Int32} (hd : decode cc pc = .ok (.ishr, 1)) (k : xWx p l e R s m args below meth c D cA A0 sA M0 ad0 nL Z mcT msT (pc + 1) bc bs ls (.inl (x >>> (y &&& 31)) :: st) M) : xWx p l e R s m args below meth c D cA A0 sA M0 ad0 nL Z mcT msT pc bc bs ls (.inl y :: .inl x :: st) M := by
  obtain ⟨hx, hb, hml, ho, hts, hK, hA, hmc, hms, hfr, hlo⟩ := X
  intro ad H locs arr cells slots g1 g2 g3 g4 g5 g6 g7 g8
  exact lv_ishr hx hb hd (k ad H locs arr cells slots g1 g2 g3 g4 g5 (g6.tail.tail.cons trivial) g7 g8)
theorem xs_iushr (X : xCtx p R s m args c D cA A0 sA nL cc own Ts mcT msT) {x y : Int32} (hd : decode cc pc = .ok (.iushr, 1)) (k : xWx p l e R s m args below meth c D cA A0 sA M0 ad0 nL Z mcT msT (pc + 1) bc bs ls (.inl ((x.toUInt32 >>> (y.toUInt32 &&& Int32.toUInt32 31)).toInt32) :: st) M) : xWx p l e R s m args below meth c D cA A0 sA M0 ad0 nL Z mcT msT pc bc bs ls (.inl y :: .inl x :: st) M := by
  obtain ⟨hx, hb, hml, ho, hts, hK, hA, hmc, hms, hfr, hlo⟩ := X
  intro ad H locs arr cells slots g1 g2 g3 g4 g5 g6 g7 g8
  exact lv_iushr hx hb hd rfl (k ad H locs arr cells slots g1 g2 g3 g4 g5 (g6.tail.tail.cons trivial) g7 g8)
theorem xs_idiv (X : xCtx p R s m args c D cA A0 sA nL cc own Ts mcT msT) {x y : Int32} (hd : decode cc pc = .ok (.idiv, 1)) (hne : ¬ y = 0) (k : xWx p l e R s m args below meth c D cA A0 sA M0 ad0 nL Z mcT msT (pc + 1) bc bs ls (.inl (x / y) :: st) M) : xWx p l e R s m args below meth c D cA A0 sA M0 ad0 nL Z mcT msT pc bc bs ls (.inl y :: .inl x :: st) M := by
  obtain ⟨hx, hb, hml, ho, hts, hK, hA, hmc, hms, hfr, hlo⟩ := X
  intro ad H locs arr cells slots g1 g2 g3 g4 g5 g6 g7 g8
  exact lv_idiv hx hb hd hne (k ad H locs arr cells slots g1 g2 g3 g4 g5 (g6.tail.tail.cons trivial) g7 g8)
theorem xs_irem (X : xCtx p R s m args c D cA A0 sA nL cc own Ts mcT msT) {x y : Int32} (hd : decode cc pc = .ok (.irem, 1)) (hne : ¬ y = 0) (k : xWx p l e R s m args below meth c D cA A0 sA M0 ad0 nL Z mcT msT (pc + 1) bc bs ls (.inl (x - x / y * y) :: st) M) : xWx p l e R s m args below meth c D cA A0 sA M0 ad0 nL Z mcT msT pc bc bs ls (.inl y :: .inl x :: st) M := by
  obtain ⟨hx, hb, hml, ho, hts, hK, hA, hmc, hms, hfr, hlo⟩ := X
  intro ad H locs arr cells slots g1 g2 g3 g4 g5 g6 g7 g8
  exact lv_irem hx hb hd hne (k ad H locs arr cells slots g1 g2 g3 g4 g5 (g6.tail.tail.cons trivial) g7 g8)
theorem xs_ladd (X : xCtx p R s m args c D cA A0 sA nL cc own Ts mcT msT) {x y : Int64} (hd : decode cc pc = .ok (.ladd, 1)) (k : xWx p l e R s m args below meth c D cA A0 sA M0 ad0 nL Z mcT msT (pc + 1) bc bs ls (.inr (.inl (x + y)) :: st) M) : xWx p l e R s m args below meth c D cA A0 sA M0 ad0 nL Z mcT msT pc bc bs ls (.inr (.inl y) :: .inr (.inl x) :: st) M := by
  obtain ⟨hx, hb, hml, ho, hts, hK, hA, hmc, hms, hfr, hlo⟩ := X
  intro ad H locs arr cells slots g1 g2 g3 g4 g5 g6 g7 g8
  exact lv_ladd hx hb hd (k ad H locs arr cells slots g1 g2 g3 g4 g5 (g6.tail.tail.cons trivial) g7 g8)
theorem xs_lsub (X : xCtx p R s m args c D cA A0 sA nL cc own Ts mcT msT) {x y : Int64} (hd : decode cc pc = .ok (.lsub, 1)) (k : xWx p l e R s m args below meth c D cA A0 sA M0 ad0 nL Z mcT msT (pc + 1) bc bs ls (.inr (.inl (x - y)) :: st) M) : xWx p l e R s m args below meth c D cA A0 sA M0 ad0 nL Z mcT msT pc bc bs ls (.inr (.inl y) :: .inr (.inl x) :: st) M := by
  obtain ⟨hx, hb, hml, ho, hts, hK, hA, hmc, hms, hfr, hlo⟩ := X
  intro ad H locs arr cells slots g1 g2 g3 g4 g5 g6 g7 g8
  exact lv_lsub hx hb hd (k ad H locs arr cells slots g1 g2 g3 g4 g5 (g6.tail.tail.cons trivial) g7 g8)
theorem xs_lmul (X : xCtx p R s m args c D cA A0 sA nL cc own Ts mcT msT) {x y : Int64} (hd : decode cc pc = .ok (.lmul, 1)) (k : xWx p l e R s m args below meth c D cA A0 sA M0 ad0 nL Z mcT msT (pc + 1) bc bs ls (.inr (.inl (x * y)) :: st) M) : xWx p l e R s m args below meth c D cA A0 sA M0 ad0 nL Z mcT msT pc bc bs ls (.inr (.inl y) :: .inr (.inl x) :: st) M := by
  obtain ⟨hx, hb, hml, ho, hts, hK, hA, hmc, hms, hfr, hlo⟩ := X
  intro ad H locs arr cells slots g1 g2 g3 g4 g5 g6 g7 g8
  exact lv_lmul hx hb hd (k ad H locs arr cells slots g1 g2 g3 g4 g5 (g6.tail.tail.cons trivial) g7 g8)
theorem xs_land (X : xCtx p R s m args c D cA A0 sA nL cc own Ts mcT msT) {x y : Int64} (hd : decode cc pc = .ok (.land, 1)) (k : xWx p l e R s m args below meth c D cA A0 sA M0 ad0 nL Z mcT msT (pc + 1) bc bs ls (.inr (.inl (x &&& y)) :: st) M) : xWx p l e R s m args below meth c D cA A0 sA M0 ad0 nL Z mcT msT pc bc bs ls (.inr (.inl y) :: .inr (.inl x) :: st) M := by
  obtain ⟨hx, hb, hml, ho, hts, hK, hA, hmc, hms, hfr, hlo⟩ := X
  intro ad H locs arr cells slots g1 g2 g3 g4 g5 g6 g7 g8
  exact lv_land hx hb hd (k ad H locs arr cells slots g1 g2 g3 g4 g5 (g6.tail.tail.cons trivial) g7 g8)
theorem xs_lor (X : xCtx p R s m args c D cA A0 sA nL cc own Ts mcT msT) {x y : Int64} (hd : decode cc pc = .ok (.lor, 1)) (k : xWx p l e R s m args below meth c D cA A0 sA M0 ad0 nL Z mcT msT (pc + 1) bc bs ls (.inr (.inl (x ||| y)) :: st) M) : xWx p l e R s m args below meth c D cA A0 sA M0 ad0 nL Z mcT msT pc bc bs ls (.inr (.inl y) :: .inr (.inl x) :: st) M := by
  obtain ⟨hx, hb, hml, ho, hts, hK, hA, hmc, hms, hfr, hlo⟩ := X
  intro ad H locs arr cells slots g1 g2 g3 g4 g5 g6 g7 g8
  exact lv_lor hx hb hd (k ad H locs arr cells slots g1 g2 g3 g4 g5 (g6.tail.tail.cons trivial) g7 g8)
theorem xs_ldiv (X : xCtx p R s m args c D cA A0 sA nL cc own Ts mcT msT) {x y : Int64} (hd : decode cc pc = .ok (.ldiv, 1)) (hne : ¬ y = 0) (k : xWx p l e R s m args below meth c D cA A0 sA M0 ad0 nL Z mcT msT (pc + 1) bc bs ls (.inr (.inl (x / y)) :: st) M) : xWx p l e R s m args below meth c D cA A0 sA M0 ad0 nL Z mcT msT pc bc bs ls (.inr (.inl y) :: .inr (.inl x) :: st) M := by
  obtain ⟨hx, hb, hml, ho, hts, hK, hA, hmc, hms, hfr, hlo⟩ := X
  intro ad H locs arr cells slots g1 g2 g3 g4 g5 g6 g7 g8
  exact lv_ldiv hx hb hd hne (k ad H locs arr cells slots g1 g2 g3 g4 g5 (g6.tail.tail.cons trivial) g7 g8)
theorem xs_lrem (X : xCtx p R s m args c D cA A0 sA nL cc own Ts mcT msT) {x y : Int64} (hd : decode cc pc = .ok (.lrem, 1)) (hne : ¬ y = 0) (k : xWx p l e R s m args below meth c D cA A0 sA M0 ad0 nL Z mcT msT (pc + 1) bc bs ls (.inr (.inl (x - x / y * y)) :: st) M) : xWx p l e R s m args below meth c D cA A0 sA M0 ad0 nL Z mcT msT pc bc bs ls (.inr (.inl y) :: .inr (.inl x) :: st) M := by
  obtain ⟨hx, hb, hml, ho, hts, hK, hA, hmc, hms, hfr, hlo⟩ := X
  intro ad H locs arr cells slots g1 g2 g3 g4 g5 g6 g7 g8
  exact lv_lrem hx hb hd hne (k ad H locs arr cells slots g1 g2 g3 g4 g5 (g6.tail.tail.cons trivial) g7 g8)
theorem xs_lcmp (X : xCtx p R s m args c D cA A0 sA nL cc own Ts mcT msT) {x y : Int64} (hd : decode cc pc = .ok (.lcmp, 1)) (k : xWx p l e R s m args below meth c D cA A0 sA M0 ad0 nL Z mcT msT (pc + 1) bc bs ls (.inl (lg_cmp x y) :: st) M) : xWx p l e R s m args below meth c D cA A0 sA M0 ad0 nL Z mcT msT pc bc bs ls (.inr (.inl y) :: .inr (.inl x) :: st) M := by
  obtain ⟨hx, hb, hml, ho, hts, hK, hA, hmc, hms, hfr, hlo⟩ := X
  intro ad H locs arr cells slots g1 g2 g3 g4 g5 g6 g7 g8
  exact W.lcmp hx hb hd (k ad H locs arr cells slots g1 g2 g3 g4 g5 (g6.tail.tail.cons trivial) g7 g8)
theorem xs_lshl (X : xCtx p R s m args c D cA A0 sA nL cc own Ts mcT msT) {x : Int64} {y : Int32} (hd : decode cc pc = .ok (.lshl, 1)) (k : xWx p l e R s m args below meth c D cA A0 sA M0 ad0 nL Z mcT msT (pc + 1) bc bs ls (.inr (.inl (x <<< (y.toInt64 &&& 63))) :: st) M) : xWx p l e R s m args below meth c D cA A0 sA M0 ad0 nL Z mcT msT pc bc bs ls (.inl y :: .inr (.inl x) :: st) M := by
  obtain ⟨hx, hb, hml, ho, hts, hK, hA, hmc, hms, hfr, hlo⟩ := X
  intro ad H locs arr cells slots g1 g2 g3 g4 g5 g6 g7 g8
  exact lv_lshl hx hb hd rfl (k ad H locs arr cells slots g1 g2 g3 g4 g5 (g6.tail.tail.cons trivial) g7 g8)
theorem xs_lshr (X : xCtx p R s m args c D cA A0 sA nL cc own Ts mcT msT) {x : Int64} {y : Int32} (hd : decode cc pc = .ok (.lshr, 1)) (k : xWx p l e R s m args below meth c D cA A0 sA M0 ad0 nL Z mcT msT (pc + 1) bc bs ls (.inr (.inl (x >>> (y.toInt64 &&& 63))) :: st) M) : xWx p l e R s m args below meth c D cA A0 sA M0 ad0 nL Z mcT msT pc bc bs ls (.inl y :: .inr (.inl x) :: st) M := by
  obtain ⟨hx, hb, hml, ho, hts, hK, hA, hmc, hms, hfr, hlo⟩ := X
  intro ad H locs arr cells slots g1 g2 g3 g4 g5 g6 g7 g8
  exact lv_lshr hx hb hd rfl (k ad H locs arr cells slots g1 g2 g3 g4 g5 (g6.tail.tail.cons trivial) g7 g8)
theorem xs_lushr (X : xCtx p R s m args c D cA A0 sA nL cc own Ts mcT msT) {x : Int64} {y : Int32} (hd : decode cc pc = .ok (.lushr, 1)) (k : xWx p l e R s m args below meth c D cA A0 sA M0 ad0 nL Z mcT msT (pc + 1) bc bs ls (.inr (.inl ((x.toUInt64 >>> (y.toInt64.toUInt64 &&& Int64.toUInt64 63)).toInt64)) :: st) M) : xWx p l e R s m args below meth c D cA A0 sA M0 ad0 nL Z mcT msT pc bc bs ls (.inl y :: .inr (.inl x) :: st) M := by
  obtain ⟨hx, hb, hml, ho, hts, hK, hA, hmc, hms, hfr, hlo⟩ := X
  intro ad H locs arr cells slots g1 g2 g3 g4 g5 g6 g7 g8
  exact lv_lushr hx hb hd rfl (k ad H locs arr cells slots g1 g2 g3 g4 g5 (g6.tail.tail.cons trivial) g7 g8)
theorem xs_i2l (X : xCtx p R s m args c D cA A0 sA nL cc own Ts mcT msT) {x : Int32} (hd : decode cc pc = .ok (.i2l, 1)) (k : xWx p l e R s m args below meth c D cA A0 sA M0 ad0 nL Z mcT msT (pc + 1) bc bs ls (.inr (.inl x.toInt64) :: st) M) : xWx p l e R s m args below meth c D cA A0 sA M0 ad0 nL Z mcT msT pc bc bs ls (.inl x :: st) M := by
  obtain ⟨hx, hb, hml, ho, hts, hK, hA, hmc, hms, hfr, hlo⟩ := X
  intro ad H locs arr cells slots g1 g2 g3 g4 g5 g6 g7 g8
  exact lv_i2l hx hb hd rfl (k ad H locs arr cells slots g1 g2 g3 g4 g5 (g6.tail.cons trivial) g7 g8)
theorem xs_l2i (X : xCtx p R s m args c D cA A0 sA nL cc own Ts mcT msT) {x : Int64} (hd : decode cc pc = .ok (.l2i, 1)) (k : xWx p l e R s m args below meth c D cA A0 sA M0 ad0 nL Z mcT msT (pc + 1) bc bs ls (.inl x.toInt32 :: st) M) : xWx p l e R s m args below meth c D cA A0 sA M0 ad0 nL Z mcT msT pc bc bs ls (.inr (.inl x) :: st) M := by
  obtain ⟨hx, hb, hml, ho, hts, hK, hA, hmc, hms, hfr, hlo⟩ := X
  intro ad H locs arr cells slots g1 g2 g3 g4 g5 g6 g7 g8
  exact lv_l2i hx hb hd rfl (k ad H locs arr cells slots g1 g2 g3 g4 g5 (g6.tail.cons trivial) g7 g8)
theorem xs_i2c (X : xCtx p R s m args c D cA A0 sA nL cc own Ts mcT msT) {x : Int32} (hd : decode cc pc = .ok (.i2c, 1)) (k : xWx p l e R s m args below meth c D cA A0 sA M0 ad0 nL Z mcT msT (pc + 1) bc bs ls (.inl (x.toUInt32 % 65536).toInt32 :: st) M) : xWx p l e R s m args below meth c D cA A0 sA M0 ad0 nL Z mcT msT pc bc bs ls (.inl x :: st) M := by
  obtain ⟨hx, hb, hml, ho, hts, hK, hA, hmc, hms, hfr, hlo⟩ := X
  intro ad H locs arr cells slots g1 g2 g3 g4 g5 g6 g7 g8
  exact lv_i2c hx hb hd rfl (k ad H locs arr cells slots g1 g2 g3 g4 g5 (g6.tail.cons trivial) g7 g8)
theorem xs_dup (X : xCtx p R s m args c D cA A0 sA nL cc own Ts mcT msT) {v : xV} (hd : decode cc pc = .ok (.dup, 1)) (hv : xcat v = 1) (k : xWx p l e R s m args below meth c D cA A0 sA M0 ad0 nL Z mcT msT (pc + 1) bc bs ls (v :: v :: st) M) : xWx p l e R s m args below meth c D cA A0 sA M0 ad0 nL Z mcT msT pc bc bs ls (v :: st) M := by
  obtain ⟨hx, hb, hml, ho, hts, hK, hA, hmc, hms, hfr, hlo⟩ := X
  intro ad H locs arr cells slots g1 g2 g3 g4 g5 g6 g7 g8
  exact lv_dup hx hb hd (by rw [xcat_cv]; exact hv) (k ad H locs arr cells slots g1 g2 g3 g4 g5 (g6.cons g6.head) g7 g8)
theorem xs_pop (X : xCtx p R s m args c D cA A0 sA nL cc own Ts mcT msT) {v : xV} (hd : decode cc pc = .ok (.pop, 1)) (hv : xcat v = 1) (k : xWx p l e R s m args below meth c D cA A0 sA M0 ad0 nL Z mcT msT (pc + 1) bc bs ls st M) : xWx p l e R s m args below meth c D cA A0 sA M0 ad0 nL Z mcT msT pc bc bs ls (v :: st) M := by
  obtain ⟨hx, hb, hml, ho, hts, hK, hA, hmc, hms, hfr, hlo⟩ := X
  intro ad H locs arr cells slots g1 g2 g3 g4 g5 g6 g7 g8
  exact lv_pop hx hb hd (by rw [xcat_cv]; exact hv) (k ad H locs arr cells slots g1 g2 g3 g4 g5 g6.tail g7 g8)
theorem xs_dup2 (X : xCtx p R s m args c D cA A0 sA nL cc own Ts mcT msT) {v w : xV} (hd : decode cc pc = .ok (.dup2, 1)) (hv : xcat v = 1) (hw : xcat w = 1) (k : xWx p l e R s m args below meth c D cA A0 sA M0 ad0 nL Z mcT msT (pc + 1) bc bs ls (v :: w :: v :: w :: st) M) : xWx p l e R s m args below meth c D cA A0 sA M0 ad0 nL Z mcT msT pc bc bs ls (v :: w :: st) M := by
  obtain ⟨hx, hb, hml, ho, hts, hK, hA, hmc, hms, hfr, hlo⟩ := X
  intro ad H locs arr cells slots g1 g2 g3 g4 g5 g6 g7 g8
  exact lv_dup2_11 hx hb hd (by rw [xcat_cv]; exact hv) (by rw [xcat_cv]; exact hw) (k ad H locs arr cells slots g1 g2 g3 g4 g5 ((g6.cons g6.tail.head).cons g6.head) g7 g8)
theorem xs_if (X : xCtx p R s m args c D cA A0 sA nL cc own Ts mcT msT) {ρ : Type} {r : ρ} {op : Jvm.ClassFile.Cond} {off : Int} {tgt : Nat} {x : Int32} {a b : Option ρ} (hd : decode cc pc = .ok (.ifCond op off, 3)) (ht : (pc : Int) + off = (tgt : Int)) (h : xif op x a b = some r)
    (ka : a = some r → xWx p l e R s m args below meth c D cA A0 sA M0 ad0 nL Z mcT msT tgt bc bs ls st M) (kb : b = some r → xWx p l e R s m args below meth c D cA A0 sA M0 ad0 nL Z mcT msT (pc + 3) bc bs ls st M) : xWx p l e R s m args below meth c D cA A0 sA M0 ad0 nL Z mcT msT pc bc bs ls (.inl x :: st) M := by
  obtain ⟨hx, hb, hml, ho, hts, hK, hA, hmc, hms, hfr, hlo⟩ := X
  intro ad H locs arr cells slots g1 g2 g3 g4 g5 g6 g7 g8
  cases op <;> simp only [xif] at h
  · refine lv_if_eq hx hb hd ht (fun hc => ?_) (fun hc => ?_)
    · rw [if_pos hc] at h; exact ka h ad H locs arr cells slots g1 g2 g3 g4 g5 g6.tail g7 g8
    · rw [if_neg hc] at h; exact kb h ad H locs arr cells slots g1 g2 g3 g4 g5 g6.tail g7 g8
  · refine lv_if_ne hx hb hd ht (fun hc => ?_) (fun hc => ?_)
    · rw [if_pos hc] at h; exact ka h ad H locs arr cells slots g1 g2 g3 g4 g5 g6.tail g7 g8
    · rw [if_neg (fun z => z hc)] at h; exact kb h ad H locs arr cells slots g1 g2 g3 g4 g5 g6.tail g7 g8
  · refine lv_if_lt hx hb hd ht (fun hc => ?_) (fun hc => ?_)
    · rw [if_pos hc] at h; exact ka h ad H locs arr cells slots g1 g2 g3 g4 g5 g6.tail g7 g8
    · rw [if_neg hc] at h; exact kb h ad H locs arr cells slots g1 g2 g3 g4 g5 g6.tail g7 g8
  · refine lv_if_ge hx hb hd ht (fun hc => ?_) (fun hc => ?_)
    · rw [if_pos hc] at h; exact ka h ad H locs arr cells slots g1 g2 g3 g4 g5 g6.tail g7 g8
    · rw [if_neg hc] at h; exact kb h ad H locs arr cells slots g1 g2 g3 g4 g5 g6.tail g7 g8
  · refine lv_if_gt hx hb hd ht (fun hc => ?_) (fun hc => ?_)
    · rw [if_pos hc] at h; exact ka h ad H locs arr cells slots g1 g2 g3 g4 g5 g6.tail g7 g8
    · rw [if_neg hc] at h; exact kb h ad H locs arr cells slots g1 g2 g3 g4 g5 g6.tail g7 g8
  · refine lv_if_le hx hb hd ht (fun hc => ?_) (fun hc => ?_)
    · rw [if_pos hc] at h; exact ka h ad H locs arr cells slots g1 g2 g3 g4 g5 g6.tail g7 g8
    · rw [if_neg hc] at h; exact kb h ad H locs arr cells slots g1 g2 g3 g4 g5 g6.tail g7 g8
theorem xs_ic (X : xCtx p R s m args c D cA A0 sA nL cc own Ts mcT msT) {ρ : Type} {r : ρ} {op : Jvm.ClassFile.Cond} {off : Int} {tgt : Nat} {x y : Int32} {a b : Option ρ} (hd : decode cc pc = .ok (.if_icmp op off, 3)) (ht : (pc : Int) + off = (tgt : Int)) (h : xic op x y a b = some r)
    (ka : a = some r → xWx p l e R s m args below meth c D cA A0 sA M0 ad0 nL Z mcT msT tgt bc bs ls st M) (kb : b = some r → xWx p l e R s m args below meth c D cA A0 sA M0 ad0 nL Z mcT msT (pc + 3) bc bs ls st M) : xWx p l e R s m args below meth c D cA A0 sA M0 ad0 nL Z mcT msT pc bc bs ls (.inl y :: .inl x :: st) M := by
  obtain ⟨hx, hb, hml, ho, hts, hK, hA, hmc, hms, hfr, hlo⟩ := X
  intro ad H locs arr cells slots g1 g2 g3 g4 g5 g6 g7 g8
  cases op <;> simp only [xic] at h
  · refine lv_icmp_eq hx hb hd ht (fun hc => ?_) (fun hc => ?_)
    · rw [if_pos hc] at h; exact ka h ad H locs arr cells slots g1 g2 g3 g4 g5 g6.tail.tail g7 g8
    · rw [if_neg hc] at h; exact kb h ad H locs arr cells slots g1 g2 g3 g4 g5 g6.tail.tail g7 g8
  · refine lv_icmp_ne hx hb hd ht (fun hc => ?_) (fun hc => ?_)
    · rw [if_pos hc] at h; exact ka h ad H locs arr cells slots g1 g2 g3 g4 g5 g6.tail.tail g7 g8
    · rw [if_neg (fun z => z hc)] at h; exact kb h ad H locs arr cells slots g1 g2 g3 g4 g5 g6.tail.tail g7 g8
  · refine lv_icmp_lt hx hb hd ht (fun hc => ?_) (fun hc => ?_)
    · rw [if_pos hc] at h; exact ka h ad H locs arr cells slots g1 g2 g3 g4 g5 g6.tail.tail g7 g8
    · rw [if_neg hc] at h; exact kb h ad H locs arr cells slots g1 g2 g3 g4 g5 g6.tail.tail g7 g8
  · refine lv_icmp_ge hx hb hd ht (fun hc => ?_) (fun hc => ?_)
    · rw [if_pos hc] at h; exact ka h ad H locs arr cells slots g1 g2 g3 g4 g5 g6.tail.tail g7 g8
    · rw [if_neg hc] at h; exact kb h ad H locs arr cells slots g1 g2 g3 g4 g5 g6.tail.tail g7 g8
  · refine lv_icmp_gt hx hb hd ht (fun hc => ?_) (fun hc => ?_)
    · rw [if_pos hc] at h; exact ka h ad H locs arr cells slots g1 g2 g3 g4 g5 g6.tail.tail g7 g8
    · rw [if_neg hc] at h; exact kb h ad H locs arr cells slots g1 g2 g3 g4 g5 g6.tail.tail g7 g8
  · refine lv_icmp_le hx hb hd ht (fun hc => ?_) (fun hc => ?_)
    · rw [if_pos hc] at h; exact ka h ad H locs arr cells slots g1 g2 g3 g4 g5 g6.tail.tail g7 g8
    · rw [if_neg hc] at h; exact kb h ad H locs arr cells slots g1 g2 g3 g4 g5 g6.tail.tail g7 g8
theorem xs_goto (X : xCtx p R s m args c D cA A0 sA nL cc own Ts mcT msT) {off : Int} {tgt : Nat} (hd : decode cc pc = .ok (.goto off, 3)) (ht : (pc : Int) + off = (tgt : Int)) (k : xWx p l e R s m args below meth c D cA A0 sA M0 ad0 nL Z mcT msT tgt bc bs ls st M) : xWx p l e R s m args below meth c D cA A0 sA M0 ad0 nL Z mcT msT pc bc bs ls st M := by
  obtain ⟨hx, hb, hml, ho, hts, hK, hA, hmc, hms, hfr, hlo⟩ := X
  intro ad H locs arr cells slots g1 g2 g3 g4 g5 g6 g7 g8
  exact lv_goto hx hb hd ht (k ad H locs arr cells slots g1 g2 g3 g4 g5 g6 g7 g8)
theorem xs_ifnullY (X : xCtx p R s m args c D cA A0 sA nL cc own Ts mcT msT) {off : Int} {tgt cx : Nat} (hd : decode cc pc = .ok (.ifnull off, 3)) (ht : (pc : Int) + off = (tgt : Int)) (k : xWx p l e R s m args below meth c D cA A0 sA M0 ad0 nL Z mcT msT tgt bc bs ls st M) : xWx p l e R s m args below meth c D cA A0 sA M0 ad0 nL Z mcT msT pc bc bs ls (.inr (.inr (cx, none)) :: st) M := by
  obtain ⟨hx, hb, hml, ho, hts, hK, hA, hmc, hms, hfr, hlo⟩ := X
  intro ad H locs arr cells slots g1 g2 g3 g4 g5 g6 g7 g8
  exact lv_ifnullN hx hb hd ht (k ad H locs arr cells slots g1 g2 g3 g4 g5 g6.tail g7 g8)
theorem xs_ifnullN (X : xCtx p R s m args c D cA A0 sA nL cc own Ts mcT msT) {off : Int} {cx a : Nat} (hd : decode cc pc = .ok (.ifnull off, 3)) (k : xWx p l e R s m args below meth c D cA A0 sA M0 ad0 nL Z mcT msT (pc + 3) bc bs ls st M) : xWx p l e R s m args below meth c D cA A0 sA M0 ad0 nL Z mcT msT pc bc bs ls (.inr (.inr (cx, some a)) :: st) M := by
  obtain ⟨hx, hb, hml, ho, hts, hK, hA, hmc, hms, hfr, hlo⟩ := X
  intro ad H locs arr cells slots g1 g2 g3 g4 g5 g6 g7 g8
  exact lv_ifnull hx hb hd (k ad H locs arr cells slots g1 g2 g3 g4 g5 g6.tail g7 g8)
end XST
