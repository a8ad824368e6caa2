/-! ===== the runner is sound ===== -/
/-- a row of the table fits its instruction -/
def xaux (nL pc len tgt : Nat) (aux : Int32) (sw : List (Int32 × Nat)) (ins : Instr) : Bool := match ins with
  | .iconst n => len == 1 && aux == Int32.ofInt n
  | .bipush n => len == 2 && aux == (Int8.ofInt n).toInt32
  | .sipush n => len == 3 && aux == (Int16.ofInt n).toInt32
  | .iload _ => len == 2
  | .lload _ => len == 2
  | .aload _ => len == 2
  | .istore_n i => len == 1 && decide ((i : Nat) < nL)
  | .istore i => len == 2 && decide (i < nL)
  | .lstore_n i => len == 1 && decide ((i : Nat) + 1 < nL)
  | .lstore i => len == 2 && decide (i + 1 < nL)
  | .astore_n i => len == 1 && decide ((i : Nat) < nL)
  | .astore i => len == 2 && decide (i < nL)
  | .iinc i n => len == 3 && aux == Int32.ofInt n && decide (i < nL)
  | .getfield _ => len == 3
  | .putfield _ => len == 3
  | .new _ => len == 3
  | .anewarray _ => len == 3
  | .newarray t => len == 2 && decide (t = .int ∨ t = .long ∨ t = .boolean ∨ t = .char)
  | .ldc _ => len == 2
  | .ldc_w _ => len == 3
  | .ldc2_w _ => len == 3
  | .ifCond _ o => len == 3 && decide ((pc : Int) + o = (tgt : Int))
  | .if_icmp _ o => len == 3 && decide ((pc : Int) + o = (tgt : Int))
  | .ifnull o => len == 3 && decide ((pc : Int) + o = (tgt : Int))
  | .goto o => len == 3 && decide ((pc : Int) + o = (tgt : Int))
  | .tableswitch d lo hi offs => xswok pc tgt sw d lo hi offs
  | .invokevirtual _ => len == 3
  | .invokespecial _ => len == 3
  | .invokestatic _ => len == 3
  | _ => len == 1
/-- kinds of the calls by their pool numbers; what may be put -/
def xkdok (kd : List (Nat × Nat)) (ins : Instr) : Bool := match ins with
  | .invokevirtual i => xfind i kd == some 0
  | .invokespecial i => xfind i kd == some 1
  | .invokestatic i => xfind i kd == some 2
  | _ => true
def xpok (fl : xFl) (nst : Nat) (isInit : Bool) (own : String) (ins : Instr) : Bool := match ins with
  | .putfield idx => idx != nst && (match xfind idx fl with
    | some (ci, k, _) => (match vwCl[ci]? with
      | some q => (!(q.2.1 k).2.2.2) || (isInit && (q.2.1 k).1 == own)
      | none => false)
    | none => true)
  | _ => true
def xrow (cc : ByteArray) (nL : Nat) (kd : List (Nat × Nat)) (fl : xFl) (nst : Nat) (isInit : Bool) (own : String) (e : xE) : Prop :=
  decode cc e.2.1 = .ok (e.2.2.2.2.2.2, e.2.2.1) ∧ (xaux nL e.2.1 e.2.2.1 e.2.2.2.1 e.2.2.2.2.1 e.2.2.2.2.2.1 e.2.2.2.2.2.2 && xkdok kd e.2.2.2.2.2.2 && xpok fl nst isInit own e.2.2.2.2.2.2) = true
def xnext : List xE → Bool
  | [] => true
  | [_] => true
  | a :: b :: r => (a.2.1 + a.2.2.1 == b.2.1) && xnext (b :: r)
/-- what a pool's constant is -/
def xkoE (Ts : List Cond) (own : String) (idx : Nat) : xV → Prop
  | .inl x => Cond.constant own idx x ∈ Ts
  | .inr (.inl x) => Cond.constantLong own idx x ∈ Ts
  | .inr (.inr (c, o)) => c = 30 ∧ own = "FlashNodes$Tape" ∧ ((idx = 59 ∧ o = some 0) ∨ (idx = 77 ∧ o = some 1))
def xinv (kd idx : Nat) : Instr := if kd = 0 then .invokevirtual idx else if kd = 1 then .invokespecial idx else .invokestatic idx
/-- what a class's pool gives -/
def xpool (Ts : List Cond) (own : String) (fl : xFl) (nst : Nat) (nw : xNw) : Prop :=
  (∀ idx ci k t, xfind idx fl = some (ci, k, t) → xfl Ts own idx ci k t) ∧
  (∀ idx ci k t, xfind idx fl = some (ci, k, t) → idx ≠ nst → ∀ (C : String) (T : u_T) (N : Nat), vwCl[ci]? = some (C, T, N) → Cond.fieldLink own idx (T k).1 (T k).2.1 (T k).2.2.1 ∈ Ts) ∧
  (∀ idx ci nf, xfind idx nw = some (ci, nf) → ∃ (C : String) (T : u_T), vwCl[ci]? = some (C, T, nf) ∧ ci < 13 ∧ Cond.classLink own idx C ∈ Ts ∧ Cond.instantiable C nf ∈ Ts ∧ Cond.initialized C ∈ Ts ∧ (ci = 1 ∨ ci = 2 → Cond.arrayOver (.object C) ∈ xNwL)) ∧
  (∀ t : ArrayType, t = .int ∨ t = .long ∨ t = .boolean ∨ t = .char → Cond.arrayClass (newarray.typeOf t) ∈ Ts)
section XMAIN
variable {p : Program} {l : Launch} {e : Env} {R : Room} {s : State} {m : MethodId} {args : Array Value} {below : List Frame} {meth : Method} {c : Code} {D : va_G} {cA : Nat → ClassId} {A0 : Nat → Prop} {sA : Nat → Nat} {M0 : xM} {ad0 : Nat → Nat → Nat} {nL : Nat} {cc : ByteArray} {own : String} {Ts : List Cond} {Z : State → Prop} {mcT msT : Nat}
variable {ρ : Type} {r : ρ} {prog : List xE} {fl : xFl} {ko : List (Nat × xV)} {nw : xNw} {ca : xCa ρ} {cu : xCu ρ} {rt : Option xV → xM → Option ρ} {kd : List (Nat × Nat)} {nst : Nat} {isInit : Bool}
theorem opt_none {h : (none : Option ρ) = some r} {P : Prop} : P := by cases h
set_option maxHeartbeats 4000000 in
theorem xexec_sound (X : xCtx p R s m args c D cA A0 sA nL cc own Ts mcT msT) (hC : xcls Ts) (hP : xpool Ts own fl nst nw) (hinit : isInit = true → meth.name = "<init>")
    (HKO : ∀ (idx : Nat) (v : xV), xfind idx ko = some v → xkoE Ts own idx v)
    (HCA : ∀ (idx na kc ks : Nat) (w : List xV → xM → (Option xV → xM → Option ρ) → Option ρ) (kd0 : Nat), xfind idx ca = some (na, kc, ks, w) → xfind idx kd = some kd0 → ∀ (pc bc bs : Nat) (ls : xLs) (as rest : List xV) (M : xM) (k : Option xV → xM → Option ρ), decode cc pc = .ok (xinv kd0 idx, 3) → as.length = na → w as M k = some r → xcats rest ≤ 8 → kc ≤ bc → ks ≤ bs → (∀ v M', k v M' = some r → xWx p l e R s m args below meth c D cA A0 sA M0 ad0 nL Z mcT msT (pc + 3) (bc - kc) (bs - ks) ls (xpush v rest) M') → xWx p l e R s m args below meth c D cA A0 sA M0 ad0 nL Z mcT msT pc bc bs ls (as.reverse ++ rest) M)
    (HRI : ∀ (x : Int32) (M' : xM) (pc bc bs : Nat) (ls : xLs), rt (some (.inl x)) M' = some r → decode cc pc = .ok (.ireturn, 1) → xWx p l e R s m args below meth c D cA A0 sA M0 ad0 nL Z mcT msT pc bc bs ls [.inl x] M')
    (HRV : ∀ (M' : xM) (pc bc bs : Nat) (ls : xLs), rt none M' = some r → decode cc pc = .ok (.return_, 1) → xWx p l e R s m args below meth c D cA A0 sA M0 ad0 nL Z mcT msT pc bc bs ls [] M')
    {go : List xE → Nat → Nat → xLs → List xV → xM → Option ρ} {code : List xE} {pc len tgt : Nat} {aux : Int32} {sw : List (Int32 × Nat)} {ins : Instr}
    (hd : decode cc pc = .ok (ins, len)) (hx1 : xaux nL pc len tgt aux sw ins = true) (hx2 : xkdok kd ins = true) (hx3 : xpok fl nst isInit own ins = true)
    (hgo : ∀ bc bs ls st M, go code bc bs ls st M = some r → xWx p l e R s m args below meth c D cA A0 sA M0 ad0 nL Z mcT msT (pc + len) bc bs ls st M) (hjm : ∀ t bc bs ls st M, go (xjump t prog) bc bs ls st M = some r → xWx p l e R s m args below meth c D cA A0 sA M0 ad0 nL Z mcT msT t bc bs ls st M)
    {bc bs : Nat} {ls : xLs} {st : List xV} {M : xM} (h : xexec prog fl ko nw ca rt go tgt aux sw ins code bc bs ls st M = some r) : xWx p l e R s m args below meth c D cA A0 sA M0 ad0 nL Z mcT msT pc bc bs ls st M := by
  have callc : ∀ (idx kd0 : Nat), ins = xinv kd0 idx → len = 3 → xfind idx kd = some kd0 → xcall ca idx bc bs st M (fun bc bs st M => go code bc bs ls st M) = some r → xWx p l e R s m args below meth c D cA A0 sA M0 ad0 nL Z mcT msT pc bc bs ls st M := by
    intro idx kd0 e1 e2 e3 hh
    clear h
    subst e1; subst e2
    unfold xcall at hh
    cases hf : xfind idx ca with
    | none => rw [hf] at hh; cases hh
    | some q =>
      obtain ⟨na, kc, ks, w⟩ := q
      rw [hf] at hh
      simp only at hh
      cases hb : (Nat.ble kc bc && Nat.ble ks bs && Nat.ble (xcats (st.drop na)) 8 && Nat.ble na st.length) with
      | false => rw [hb] at hh; cases hh
      | true =>
        rw [hb] at hh
        simp only [Bool.and_eq_true, Nat.ble_eq] at hb
        obtain ⟨⟨⟨b1, b2⟩, b3⟩, b4⟩ := hb
        have := HCA idx na kc ks w kd0 hf e3 pc bc bs ls (st.take na).reverse (st.drop na) M _ hd (by rw [List.length_reverse, List.length_take]; omega) hh b3 b1 b2 (fun v M' hv => by
          refine hgo _ _ _ _ _ ?_
          cases v <;> exact hv)
        rw [List.reverse_reverse, List.take_append_drop] at this
        exact this
  unfold xexec at h
  cases ins <;> simp only at h
  case iconst n =>
    simp only [xaux, Bool.and_eq_true, beq_iff_eq, decide_eq_true_eq] at hx1
    obtain ⟨rfl, e1⟩ := hx1
    exact xs_iconst X hd e1.symm (hgo _ _ _ _ _ h)
  case bipush n =>
    simp only [xaux, Bool.and_eq_true, beq_iff_eq, decide_eq_true_eq] at hx1
    obtain ⟨rfl, e1⟩ := hx1
    exact xs_bipush X hd e1.symm (hgo _ _ _ _ _ h)
  case sipush n =>
    simp only [xaux, Bool.and_eq_true, beq_iff_eq, decide_eq_true_eq] at hx1
    obtain ⟨rfl, e1⟩ := hx1
    exact xs_sipush X hd e1.symm (hgo _ _ _ _ _ h)
  case lconst n =>
    have e0 : len = 1 := by simpa [xaux] using hx1
    subst e0
    exact xs_lconst X hd (hgo _ _ _ _ _ h)
  case aconst_null =>
    have e0 : len = 1 := by simpa [xaux] using hx1
    subst e0
    exact xs_null X hd (hgo _ _ _ _ _ h)
  case iload_n i =>
    have e0 : len = 1 := by simpa [xaux] using hx1
    subst e0
    replace h := lI_some h
    obtain ⟨x, h1, h⟩ := h
    exact xs_iload_n X hd h1 (hgo _ _ _ _ _ h)
  case iload i =>
    have e0 : len = 2 := by simpa [xaux] using hx1
    subst e0
    replace h := lI_some h
    obtain ⟨x, h1, h⟩ := h
    exact xs_iload X hd h1 (hgo _ _ _ _ _ h)
  case lload_n i =>
    have e0 : len = 1 := by simpa [xaux] using hx1
    subst e0
    replace h := lL_some h
    obtain ⟨x, h1, h⟩ := h
    exact xs_lload_n X hd h1 (hgo _ _ _ _ _ h)
  case lload i =>
    have e0 : len = 2 := by simpa [xaux] using hx1
    subst e0
    replace h := lL_some h
    obtain ⟨x, h1, h⟩ := h
    exact xs_lload X hd h1 (hgo _ _ _ _ _ h)
  case aload_n i =>
    have e0 : len = 1 := by simpa [xaux] using hx1
    subst e0
    replace h := lA_some h
    obtain ⟨cx, o, h1, h⟩ := h
    exact xs_aload_n X hd h1 (hgo _ _ _ _ _ h)
  case aload i =>
    have e0 : len = 2 := by simpa [xaux] using hx1
    subst e0
    replace h := lA_some h
    obtain ⟨cx, o, h1, h⟩ := h
    exact xs_aload X hd h1 (hgo _ _ _ _ _ h)
  case istore_n i =>
    simp only [xaux, Bool.and_eq_true, beq_iff_eq, decide_eq_true_eq] at hx1
    obtain ⟨rfl, e1⟩ := hx1
    replace h := pI_some h
    obtain ⟨x, st', rfl, h⟩ := h
    exact xs_istore_n X hd e1 (hgo _ _ _ _ _ h)
  case istore i =>
    simp only [xaux, Bool.and_eq_true, beq_iff_eq, decide_eq_true_eq] at hx1
    obtain ⟨rfl, e1⟩ := hx1
    replace h := pI_some h
    obtain ⟨x, st', rfl, h⟩ := h
    exact xs_istore X hd e1 (hgo _ _ _ _ _ h)
  case lstore_n i =>
    simp only [xaux, Bool.and_eq_true, beq_iff_eq, decide_eq_true_eq] at hx1
    obtain ⟨rfl, e1⟩ := hx1
    replace h := pL_some h
    obtain ⟨x, st', rfl, h⟩ := h
    exact xs_lstore_n X hd e1 (hgo _ _ _ _ _ h)
  case lstore i =>
    simp only [xaux, Bool.and_eq_true, beq_iff_eq, decide_eq_true_eq] at hx1
    obtain ⟨rfl, e1⟩ := hx1
    replace h := pL_some h
    obtain ⟨x, st', rfl, h⟩ := h
    exact xs_lstore X hd e1 (hgo _ _ _ _ _ h)
  case astore_n i =>
    simp only [xaux, Bool.and_eq_true, beq_iff_eq, decide_eq_true_eq] at hx1
    obtain ⟨rfl, e1⟩ := hx1
    replace h := pA_some h
    obtain ⟨cx, o, st', rfl, h⟩ := h
    exact xs_astore_n X hd e1 (hgo _ _ _ _ _ h)
  case astore i =>
    simp only [xaux, Bool.and_eq_true, beq_iff_eq, decide_eq_true_eq] at hx1
    obtain ⟨rfl, e1⟩ := hx1
    replace h := pA_some h
    obtain ⟨cx, o, st', rfl, h⟩ := h
    exact xs_astore X hd e1 (hgo _ _ _ _ _ h)
  case iinc i n =>
    simp only [xaux, Bool.and_eq_true, beq_iff_eq, decide_eq_true_eq] at hx1
    obtain ⟨⟨rfl, e1⟩, e2⟩ := hx1
    replace h := lI_some h
    obtain ⟨x, h1, h⟩ := h
    exact xs_iinc X hd e1.symm e2 h1 (hgo _ _ _ _ _ h)
  case iadd =>
    have e0 : len = 1 := by simpa [xaux] using hx1
    subst e0
    replace h := xbin_some h
    obtain ⟨x, y, st', rfl, h⟩ := h
    exact xs_iadd X hd (hgo _ _ _ _ _ h)
  case isub =>
    have e0 : len = 1 := by simpa [xaux] using hx1
    subst e0
    replace h := xbin_some h
    obtain ⟨x, y, st', rfl, h⟩ := h
    exact xs_isub X hd (hgo _ _ _ _ _ h)
  case imul =>
    have e0 : len = 1 := by simpa [xaux] using hx1
    subst e0
    replace h := xbin_some h
    obtain ⟨x, y, st', rfl, h⟩ := h
    exact xs_imul X hd (hgo _ _ _ _ _ h)
  case iand =>
    have e0 : len = 1 := by simpa [xaux] using hx1
    subst e0
    replace h := xbin_some h
    obtain ⟨x, y, st', rfl, h⟩ := h
    exact xs_iand X hd (hgo _ _ _ _ _ h)
  case ior =>
    have e0 : len = 1 := by simpa [xaux] using hx1
    subst e0
    replace h := xbin_some h
    obtain ⟨x, y, st', rfl, h⟩ := h
    exact xs_ior X hd (hgo _ _ _ _ _ h)
  case ixor =>
    have e0 : len = 1 := by simpa [xaux] using hx1
    subst e0
    replace h := xbin_some h
    obtain ⟨x, y, st', rfl, h⟩ := h
    exact xs_ixor X hd (hgo _ _ _ _ _ h)
  case ishl =>
    have e0 : len = 1 := by simpa [xaux] using hx1
    subst e0
    replace h := xbin_some h
    obtain ⟨x, y, st', rfl, h⟩ := h
    exact xs_ishl X hd (hgo _ _ _ _ _ h)
  case ishr =>
    have e0 : len = 1 := by simpa [xaux] using hx1
    subst e0
    replace h := xbin_some h
    obtain ⟨x, y, st', rfl, h⟩ := h
    exact xs_ishr X hd (hgo _ _ _ _ _ h)
  case iushr =>
    have e0 : len = 1 := by simpa [xaux] using hx1
    subst e0
    replace h := xbin_some h
    obtain ⟨x, y, st', rfl, h⟩ := h
    exact xs_iushr X hd (hgo _ _ _ _ _ h)
  case idiv =>
    have e0 : len = 1 := by simpa [xaux] using hx1
    subst e0
    replace h := xbin_some h
    obtain ⟨x, y, st', rfl, h⟩ := h
    replace h := gd_some h
    obtain ⟨h1, h⟩ := h
    exact xs_idiv X hd (by simpa using h1) (hgo _ _ _ _ _ h)
  case irem =>
    have e0 : len = 1 := by simpa [xaux] using hx1
    subst e0
    replace h := xbin_some h
    obtain ⟨x, y, st', rfl, h⟩ := h
    replace h := gd_some h
    obtain ⟨h1, h⟩ := h
    exact xs_irem X hd (by simpa using h1) (hgo _ _ _ _ _ h)
  case ladd =>
    have e0 : len = 1 := by simpa [xaux] using hx1
    subst e0
    replace h := xbinL_some h
    obtain ⟨x, y, st', rfl, h⟩ := h
    exact xs_ladd X hd (hgo _ _ _ _ _ h)
  case lsub =>
    have e0 : len = 1 := by simpa [xaux] using hx1
    subst e0
    replace h := xbinL_some h
    obtain ⟨x, y, st', rfl, h⟩ := h
    exact xs_lsub X hd (hgo _ _ _ _ _ h)
  case lmul =>
    have e0 : len = 1 := by simpa [xaux] using hx1
    subst e0
    replace h := xbinL_some h
    obtain ⟨x, y, st', rfl, h⟩ := h
    exact xs_lmul X hd (hgo _ _ _ _ _ h)
  case land =>
    have e0 : len = 1 := by simpa [xaux] using hx1
    subst e0
    replace h := xbinL_some h
    obtain ⟨x, y, st', rfl, h⟩ := h
    exact xs_land X hd (hgo _ _ _ _ _ h)
  case lor =>
    have e0 : len = 1 := by simpa [xaux] using hx1
    subst e0
    replace h := xbinL_some h
    obtain ⟨x, y, st', rfl, h⟩ := h
    exact xs_lor X hd (hgo _ _ _ _ _ h)
  case lcmp =>
    have e0 : len = 1 := by simpa [xaux] using hx1
    subst e0
    replace h := xbinL_some h
    obtain ⟨x, y, st', rfl, h⟩ := h
    exact xs_lcmp X hd (hgo _ _ _ _ _ h)
  case ldiv =>
    have e0 : len = 1 := by simpa [xaux] using hx1
    subst e0
    replace h := xbinL_some h
    obtain ⟨x, y, st', rfl, h⟩ := h
    replace h := gd_some h
    obtain ⟨h1, h⟩ := h
    exact xs_ldiv X hd (by simpa using h1) (hgo _ _ _ _ _ h)
  case lrem =>
    have e0 : len = 1 := by simpa [xaux] using hx1
    subst e0
    replace h := xbinL_some h
    obtain ⟨x, y, st', rfl, h⟩ := h
    replace h := gd_some h
    obtain ⟨h1, h⟩ := h
    exact xs_lrem X hd (by simpa using h1) (hgo _ _ _ _ _ h)
  case lshl =>
    have e0 : len = 1 := by simpa [xaux] using hx1
    subst e0
    replace h := pI_some h
    obtain ⟨y, st1, rfl, h⟩ := h
    replace h := pL_some h
    obtain ⟨x, st2, rfl, h⟩ := h
    exact xs_lshl X hd (hgo _ _ _ _ _ h)
  case lshr =>
    have e0 : len = 1 := by simpa [xaux] using hx1
    subst e0
    replace h := pI_some h
    obtain ⟨y, st1, rfl, h⟩ := h
    replace h := pL_some h
    obtain ⟨x, st2, rfl, h⟩ := h
    exact xs_lshr X hd (hgo _ _ _ _ _ h)
  case lushr =>
    have e0 : len = 1 := by simpa [xaux] using hx1
    subst e0
    replace h := pI_some h
    obtain ⟨y, st1, rfl, h⟩ := h
    replace h := pL_some h
    obtain ⟨x, st2, rfl, h⟩ := h
    exact xs_lushr X hd (hgo _ _ _ _ _ h)
  case i2l =>
    have e0 : len = 1 := by simpa [xaux] using hx1
    subst e0
    replace h := pI_some h
    obtain ⟨x, st', rfl, h⟩ := h
    exact xs_i2l X hd (hgo _ _ _ _ _ h)
  case l2i =>
    have e0 : len = 1 := by simpa [xaux] using hx1
    subst e0
    replace h := pL_some h
    obtain ⟨x, st', rfl, h⟩ := h
    exact xs_l2i X hd (hgo _ _ _ _ _ h)
  case i2c =>
    have e0 : len = 1 := by simpa [xaux] using hx1
    subst e0
    replace h := pI_some h
    obtain ⟨x, st', rfl, h⟩ := h
    exact xs_i2c X hd (hgo _ _ _ _ _ h)
  case dup =>
    have e0 : len = 1 := by simpa [xaux] using hx1
    subst e0
    replace h := pV_some h
    obtain ⟨v, st', rfl, h⟩ := h
    cases hb : Nat.beq (xcat v) 1 with
    | false => simp only [hb] at h; cases h
    | true => simp only [hb] at h; exact xs_dup X hd (Nat.eq_of_beq_eq_true hb) (hgo _ _ _ _ _ h)
  case pop =>
    have e0 : len = 1 := by simpa [xaux] using hx1
    subst e0
    replace h := pV_some h
    obtain ⟨v, st', rfl, h⟩ := h
    cases hb : Nat.beq (xcat v) 1 with
    | false => simp only [hb] at h; cases h
    | true => simp only [hb] at h; exact xs_pop X hd (Nat.eq_of_beq_eq_true hb) (hgo _ _ _ _ _ h)
  case dup2 =>
    have e0 : len = 1 := by simpa [xaux] using hx1
    subst e0
    replace h := pV_some h
    obtain ⟨v, st1, rfl, h⟩ := h
    replace h := pV_some h
    obtain ⟨w, st2, rfl, h⟩ := h
    cases hb : Nat.beq (xcat v + xcat w) 2 with
    | false => simp only [hb] at h; cases h
    | true =>
      simp only [hb] at h
      have e1 := Nat.eq_of_beq_eq_true hb
      have p1 : 1 ≤ xcat v := by rcases v with v | v | v <;> simp [xcat]
      have p2 : 1 ≤ xcat w := by rcases w with v | v | v <;> simp [xcat]
      exact xs_dup2 X hd (by omega) (by omega) (hgo _ _ _ _ _ h)
  case getfield idx =>
    have e0 : len = 3 := by simpa [xaux] using hx1
    subst e0
    cases hf : xfind idx fl with
    | none => rw [hf] at h; cases h
    | some q =>
      obtain ⟨ci, k, t⟩ := q
      rw [hf] at h
      replace h := pR_some h
      obtain ⟨o, st', rfl, h⟩ := h
      replace h := bd_some h
      obtain ⟨a, rfl, h⟩ := h
      exact xs_get X hC hd (hP.1 idx ci k t hf) (hgo _ _ _ _ _ h)
  case putfield idx =>
    have e0 : len = 3 := by simpa [xaux] using hx1
    subst e0
    cases hf : xfind idx fl with
    | none => rw [hf] at h; cases h
    | some q =>
      obtain ⟨ci, k, t⟩ := q
      rw [hf] at h
      replace h := pV_some h
      obtain ⟨v, st1, rfl, h⟩ := h
      replace h := pR_some h
      obtain ⟨o, st', rfl, h⟩ := h
      replace h := bd_some h
      obtain ⟨a, rfl, h⟩ := h
      simp only [xpok, hf, Bool.and_eq_true, bne_iff_ne, ne_eq] at hx3
      refine xs_put X hC hd (hP.1 idx ci k t hf) (fun C T N hc => ?_) (hP.2.1 idx ci k t hf hx3.1) h (fun M' h => hgo _ _ _ _ _ h)
      have h3 := hx3.2
      rw [hc] at h3
      simp only [Bool.or_eq_true, Bool.not_eq_true', Bool.and_eq_true, beq_iff_eq] at h3
      rcases h3 with h3 | h3
      · exact Or.inl h3
      · cases hz : (T k).2.2.2 with
        | false => exact Or.inl rfl
        | true => exact Or.inr ⟨rfl, hinit h3.1, h3.2⟩
  case iaload =>
    have e0 : len = 1 := by simpa [xaux] using hx1
    subst e0
    replace h := pI_some h
    obtain ⟨i, st1, rfl, h⟩ := h
    replace h := pR_some h
    obtain ⟨o, st', rfl, h⟩ := h
    replace h := bd_some h
    obtain ⟨a, rfl, h⟩ := h
    replace h := gd_some h
    obtain ⟨h1, h⟩ := h
    exact xs_iald X hd h1 (hgo _ _ _ _ _ h)
  case baload =>
    have e0 : len = 1 := by simpa [xaux] using hx1
    subst e0
    replace h := pI_some h
    obtain ⟨i, st1, rfl, h⟩ := h
    replace h := pR_some h
    obtain ⟨o, st', rfl, h⟩ := h
    replace h := bd_some h
    obtain ⟨a, rfl, h⟩ := h
    replace h := gd_some h
    obtain ⟨h1, h⟩ := h
    exact xs_zald X hd h1 (hgo _ _ _ _ _ h)
  case caload =>
    have e0 : len = 1 := by simpa [xaux] using hx1
    subst e0
    replace h := pI_some h
    obtain ⟨i, st1, rfl, h⟩ := h
    replace h := pR_some h
    obtain ⟨o, st', rfl, h⟩ := h
    replace h := bd_some h
    obtain ⟨a, rfl, h⟩ := h
    replace h := gd_some h
    obtain ⟨h1, h⟩ := h
    exact xs_cald X hd h1 (hgo _ _ _ _ _ h)
  case laload =>
    have e0 : len = 1 := by simpa [xaux] using hx1
    subst e0
    replace h := pI_some h
    obtain ⟨i, st1, rfl, h⟩ := h
    replace h := pR_some h
    obtain ⟨o, st', rfl, h⟩ := h
    replace h := bd_some h
    obtain ⟨a, rfl, h⟩ := h
    replace h := gd_some h
    obtain ⟨h1, h⟩ := h
    exact xs_lald X hd h1 (hgo _ _ _ _ _ h)
  case aaload =>
    have e0 : len = 1 := by simpa [xaux] using hx1
    subst e0
    replace h := pI_some h
    obtain ⟨i, st1, rfl, h⟩ := h
    replace h := pA_some h
    obtain ⟨c1, o, st', rfl, h⟩ := h
    cases hb : xisq c1 with
    | false => simp only [hb] at h; cases h
    | true =>
      simp only [hb] at h
      have e1 : c1 = 24 ∨ c1 = 25 := by
        simp only [xisq, Bool.and_eq_true, Nat.ble_eq] at hb
        omega
      replace h := bd_some h
      obtain ⟨a, rfl, h⟩ := h
      replace h := gd_some h
      obtain ⟨h1, h⟩ := h
      exact xs_aald X e1 hd h1 (hgo _ _ _ _ _ h)
  case iastore =>
    have e0 : len = 1 := by simpa [xaux] using hx1
    subst e0
    replace h := pI_some h
    obtain ⟨v, st0, rfl, h⟩ := h
    replace h := pI_some h
    obtain ⟨i, st1, rfl, h⟩ := h
    replace h := pR_some h
    obtain ⟨o, st', rfl, h⟩ := h
    replace h := bd_some h
    obtain ⟨a, rfl, h⟩ := h
    replace h := gd_some h
    obtain ⟨h1, h⟩ := h
    exact xs_iast X hd h1 (hgo _ _ _ _ _ h)
  case lastore =>
    have e0 : len = 1 := by simpa [xaux] using hx1
    subst e0
    replace h := pL_some h
    obtain ⟨v, st0, rfl, h⟩ := h
    replace h := pI_some h
    obtain ⟨i, st1, rfl, h⟩ := h
    replace h := pR_some h
    obtain ⟨o, st', rfl, h⟩ := h
    replace h := bd_some h
    obtain ⟨a, rfl, h⟩ := h
    replace h := gd_some h
    obtain ⟨h1, h⟩ := h
    exact xs_last X hd h1 (hgo _ _ _ _ _ h)
  case bastore =>
    have e0 : len = 1 := by simpa [xaux] using hx1
    subst e0
    replace h := pI_some h
    obtain ⟨v, st0, rfl, h⟩ := h
    replace h := pI_some h
    obtain ⟨i, st1, rfl, h⟩ := h
    replace h := pR_some h
    obtain ⟨o, st', rfl, h⟩ := h
    replace h := bd_some h
    obtain ⟨a, rfl, h⟩ := h
    replace h := gd_some h
    obtain ⟨h1, h⟩ := h
    replace h := gd_some h
    obtain ⟨h2, h⟩ := h
    exact xs_zast X hd h1 h2 (hgo _ _ _ _ _ h)
  case castore =>
    have e0 : len = 1 := by simpa [xaux] using hx1
    subst e0
    replace h := pI_some h
    obtain ⟨v, st0, rfl, h⟩ := h
    replace h := pI_some h
    obtain ⟨i, st1, rfl, h⟩ := h
    replace h := pR_some h
    obtain ⟨o, st', rfl, h⟩ := h
    replace h := bd_some h
    obtain ⟨a, rfl, h⟩ := h
    replace h := gd_some h
    obtain ⟨h1, h⟩ := h
    replace h := gd_some h
    obtain ⟨h2, h⟩ := h
    exact xs_cast X hd h1 h2 (hgo _ _ _ _ _ h)
  case aastore =>
    have e0 : len = 1 := by simpa [xaux] using hx1
    subst e0
    replace h := pA_some h
    obtain ⟨c2, w, st0, rfl, h⟩ := h
    replace h := pI_some h
    obtain ⟨i, st1, rfl, h⟩ := h
    replace h := pA_some h
    obtain ⟨c1, o, st', rfl, h⟩ := h
    cases hb : (xisq c1 && Nat.beq c2 (xelt c1)) with
    | false => simp only [hb] at h; cases h
    | true =>
      simp only [hb] at h
      simp only [Bool.and_eq_true] at hb
      have e1 : c1 = 24 ∨ c1 = 25 := by
        have h0 := hb.1
        simp only [xisq, Bool.and_eq_true, Nat.ble_eq] at h0
        omega
      have e2 := Nat.eq_of_beq_eq_true hb.2
      subst e2
      replace h := bd_some h
      obtain ⟨a, rfl, h⟩ := h
      replace h := bd_some h
      obtain ⟨w, rfl, h⟩ := h
      replace h := gd_some h
      obtain ⟨h1, h⟩ := h
      exact xs_aast X e1 hd h1 (hgo _ _ _ _ _ h)
  case arraylength =>
    have e0 : len = 1 := by simpa [xaux] using hx1
    subst e0
    replace h := pA_some h
    obtain ⟨c1, o, st', rfl, h⟩ := h
    cases hb : (Nat.ble 20 c1 && Nat.ble c1 25) with
    | false => simp only [hb] at h; cases h
    | true =>
      simp only [hb] at h
      simp only [Bool.and_eq_true, Nat.ble_eq] at hb
      replace h := bd_some h
      obtain ⟨a, rfl, h⟩ := h
      exact xs_alen X hb hd (hgo _ _ _ _ _ h)
  case new idx =>
    have e0 : len = 3 := by simpa [xaux] using hx1
    subst e0
    cases hf : xfind idx nw with
    | none => rw [hf] at h; cases h
    | some q =>
      obtain ⟨ci, nf⟩ := q
      rw [hf] at h
      simp only at h
      obtain ⟨C, T, w1, w2, w3, w4, w5, -⟩ := hP.2.2.1 idx ci nf hf
      rw [show Nat.ble ci 12 = true from Nat.ble_eq.mpr (by omega)] at h
      simp only [xnew] at h
      cases bc with
      | zero => cases h
      | succ b =>
        simp only at h
        cases hb : Nat.ble nf bs with
        | false => rw [hb] at h; cases h
        | true =>
          rw [hb] at h
          have e3 : Nat.ble 20 ci = false := by
            cases hz : Nat.ble 20 ci with
            | false => rfl
            | true => have := Nat.ble_eq.mp hz; omega
          simp only [e3] at h
          exact xs_new X hC hd ⟨C, T, w1, w2, w3, w4, w5⟩ (Nat.ble_eq.mp hb) (hgo _ _ _ _ _ h)
  case newarray t =>
    simp only [xaux, Bool.and_eq_true, beq_iff_eq, decide_eq_true_eq] at hx1
    obtain ⟨rfl, e1⟩ := hx1
    replace h := pI_some h
    obtain ⟨n, st', rfl, h⟩ := h
    replace h := gd_some h
    obtain ⟨h1, h⟩ := h
    cases hb : (Nat.ble 20 (xacode t) && Nat.ble tgt 100000) with
    | false => simp only [hb] at h; cases h
    | true =>
      simp only [hb] at h
      simp only [Bool.and_eq_true, Nat.ble_eq] at hb
      simp only [xnew] at h
      cases bc with
      | zero => cases h
      | succ b =>
        simp only at h
        cases hb2 : Nat.ble tgt bs with
        | false => rw [hb2] at h; cases h
        | true =>
          rw [hb2] at h
          have e3 : Nat.ble 20 (xacode t) = true := Nat.ble_eq.mpr hb.1
          simp only [e3] at h
          exact xs_newarr X e1 hd (by simpa using h1) hb.2 (hP.2.2.2 t e1) (Nat.ble_eq.mp hb2) (hgo _ _ _ _ _ h)
  case anewarray idx =>
    have e0 : len = 3 := by simpa [xaux] using hx1
    subst e0
    cases hf : xfind idx nw with
    | none => rw [hf] at h; cases h
    | some q =>
      obtain ⟨ci, nf⟩ := q
      rw [hf] at h
      simp only at h
      obtain ⟨C, T, w1, w2, w3, w4, w5, w6⟩ := hP.2.2.1 idx ci nf hf
      replace h := pI_some h
      obtain ⟨n, st', rfl, h⟩ := h
      replace h := gd_some h
      obtain ⟨h1, h⟩ := h
      cases hb : ((Nat.beq ci 1 || Nat.beq ci 2) && Nat.ble tgt 100000) with
      | false => simp only [hb] at h; cases h
      | true =>
        simp only [hb] at h
        simp only [Bool.and_eq_true, Bool.or_eq_true, Nat.ble_eq] at hb
        have e1 : ci = 1 ∨ ci = 2 := by
          rcases hb.1 with z | z
          · exact Or.inl (Nat.eq_of_beq_eq_true z)
          · exact Or.inr (Nat.eq_of_beq_eq_true z)
        simp only [xnew] at h
        cases bc with
        | zero => cases h
        | succ b =>
          simp only at h
          cases hb2 : Nat.ble tgt bs with
          | false => rw [hb2] at h; cases h
          | true =>
            rw [hb2] at h
            have e3 : Nat.ble 20 (xqof ci) = true := by rcases e1 with rfl | rfl <;> rfl
            simp only [e3] at h
            exact xs_anew X e1 hd (by simpa using h1) hb.2 ⟨C, T, nf, w1, w3, w6 e1⟩ (Nat.ble_eq.mp hb2) (hgo _ _ _ _ _ h)
  case ldc idx =>
    have e0 : len = 2 := by simpa [xaux] using hx1
    subst e0
    rcases hf : xfind idx ko with _ | x | x | ⟨c1, o⟩
    · rw [hf] at h; cases h
    · rw [hf] at h
      exact xs_ldc X (HKO _ _ hf) hd (hgo _ _ _ _ _ h)
    · rw [hf] at h; cases h
    · rw [hf] at h
      have h9 := hgo _ _ _ _ _ h
      obtain ⟨rfl, h1, h2⟩ := HKO _ _ hf
      obtain ⟨hx, hb, hml, ho, hts, hK, hA, hmc, hms, hfr, hlo, hstr⟩ := X
      subst h1
      rcases h2 with ⟨rfl, rfl⟩ | ⟨rfl, rfl⟩
      · intro ad H locs arr cells slots g1 g2 g3 g4 g5 g6 g7 g8
        refine va_ldcS hx hb ho hstr.2.1 hd ?_
        rw [← g1.1 0]
        exact h9 ad H locs arr cells slots g1 g2 g3 g4 g5 (g6.cons (Or.inr rfl)) g7 g8
      · intro ad H locs arr cells slots g1 g2 g3 g4 g5 g6 g7 g8
        refine va_ldcS hx hb ho hstr.2.2.1 hd ?_
        rw [← g1.1 1]
        exact h9 ad H locs arr cells slots g1 g2 g3 g4 g5 (g6.cons (Or.inr rfl)) g7 g8
  case ldc_w idx =>
    have e0 : len = 3 := by simpa [xaux] using hx1
    subst e0
    rcases hf : xfind idx ko with _ | x | x | ⟨c1, o⟩
    · rw [hf] at h; cases h
    · rw [hf] at h
      exact xs_ldcw X (HKO _ _ hf) hd (hgo _ _ _ _ _ h)
    · rw [hf] at h; cases h
    · rw [hf] at h; cases h
  case ldc2_w idx =>
    have e0 : len = 3 := by simpa [xaux] using hx1
    subst e0
    rcases hf : xfind idx ko with _ | x | x | ⟨c1, o⟩
    · rw [hf] at h; cases h
    · rw [hf] at h; cases h
    · rw [hf] at h
      exact xs_ldc2 X (HKO _ _ hf) hd (hgo _ _ _ _ _ h)
    · rw [hf] at h; cases h
  case ifCond op o =>
    simp only [xaux, Bool.and_eq_true, beq_iff_eq, decide_eq_true_eq] at hx1
    obtain ⟨rfl, e1⟩ := hx1
    replace h := pI_some h
    obtain ⟨x, st', rfl, h⟩ := h
    exact xs_if X hd e1 h (fun h => hjm _ _ _ _ _ _ h) (fun h => hgo _ _ _ _ _ h)
  case if_icmp op o =>
    simp only [xaux, Bool.and_eq_true, beq_iff_eq, decide_eq_true_eq] at hx1
    obtain ⟨rfl, e1⟩ := hx1
    replace h := xbin_some h
    obtain ⟨x, y, st', rfl, h⟩ := h
    exact xs_ic X hd e1 h (fun h => hjm _ _ _ _ _ _ h) (fun h => hgo _ _ _ _ _ h)
  case ifnull o =>
    simp only [xaux, Bool.and_eq_true, beq_iff_eq, decide_eq_true_eq] at hx1
    obtain ⟨rfl, e1⟩ := hx1
    replace h := pA_some h
    obtain ⟨c1, o, st', rfl, h⟩ := h
    cases o with
    | none => exact xs_ifnullY X hd e1 (hjm _ _ _ _ _ _ h)
    | some a => exact xs_ifnullN X hd (hgo _ _ _ _ _ h)
  case goto o =>
    simp only [xaux, Bool.and_eq_true, beq_iff_eq, decide_eq_true_eq] at hx1
    obtain ⟨rfl, e1⟩ := hx1
    exact xs_goto X hd e1 (hjm _ _ _ _ _ _ h)
  case tableswitch d lo hi offs =>
    have e1 : xswok pc tgt sw d lo hi offs = true := hx1
    replace h := pI_some h
    obtain ⟨x, st', rfl, h⟩ := h
    exact xs_switch X hd e1 h (fun h => hjm _ _ _ _ _ _ h) (fun t h => hjm _ _ _ _ _ _ h)
  case ireturn =>
    have e0 : len = 1 := by simpa [xaux] using hx1
    subst e0
    replace h := pI_some h
    obtain ⟨x, st', rfl, h⟩ := h
    cases st' with
    | nil => exact HRI x M pc bc bs ls h hd
    | cons a b => cases h
  case return_ =>
    have e0 : len = 1 := by simpa [xaux] using hx1
    subst e0
    cases st with
    | nil => exact HRV M pc bc bs ls h hd
    | cons a b => cases h
  case invokevirtual idx =>
    have e0 : len = 3 := by simpa [xaux] using hx1
    exact callc idx 0 rfl e0 (by simpa [xkdok] using hx2) h
  case invokespecial idx =>
    have e0 : len = 3 := by simpa [xaux] using hx1
    exact callc idx 1 rfl e0 (by simpa [xkdok] using hx2) h
  case invokestatic idx =>
    have e0 : len = 3 := by simpa [xaux] using hx1
    exact callc idx 2 rfl e0 (by simpa [xkdok] using hx2) h
  all_goals exact opt_none (h := h)
theorem xnext_head {a : xE} {code : List xE} (h : xnext (a :: code) = true) : xnext code = true ∧ ∀ b ∈ code.head?, a.2.1 + a.2.2.1 = b.2.1 := by
  cases code with
  | nil => exact ⟨rfl, fun b hb => by cases hb⟩
  | cons b r =>
    simp only [xnext, Bool.and_eq_true, beq_iff_eq] at h
    exact ⟨h.2, fun b' hb => by cases hb; exact h.1⟩
theorem xjump_ok {P : xE → Prop} {t : Nat} : ∀ {code : List xE}, (∀ e ∈ code, P e) → xnext code = true → (∀ e ∈ xjump t code, P e) ∧ xnext (xjump t code) = true ∧ ∀ b ∈ (xjump t code).head?, b.2.1 = t
  | [], _, _ => ⟨fun e h => (by cases h), rfl, fun b h => by cases h⟩
  | (fg, pc, e) :: r, h, hn => by
    unfold xjump
    cases hb : Nat.beq pc t with
    | true => exact ⟨h, hn, fun b h => by cases h; exact Nat.eq_of_beq_eq_true hb⟩
    | false => exact xjump_ok (fun e he => h e (List.mem_cons_of_mem _ he)) (xnext_head hn).1
theorem xrun_sound (X : xCtx p R s m args c D cA A0 sA nL cc own Ts mcT msT) (hC : xcls Ts) (hP : xpool Ts own fl nst nw) (hinit : isInit = true → meth.name = "<init>")
    (HKO : ∀ (idx : Nat) (v : xV), xfind idx ko = some v → xkoE Ts own idx v)
    (HCA : ∀ (idx na kc ks : Nat) (w : List xV → xM → (Option xV → xM → Option ρ) → Option ρ) (kd0 : Nat), xfind idx ca = some (na, kc, ks, w) → xfind idx kd = some kd0 → ∀ (pc bc bs : Nat) (ls : xLs) (as rest : List xV) (M : xM) (k : Option xV → xM → Option ρ), decode cc pc = .ok (xinv kd0 idx, 3) → as.length = na → w as M k = some r → xcats rest ≤ 8 → kc ≤ bc → ks ≤ bs → (∀ v M', k v M' = some r → xWx p l e R s m args below meth c D cA A0 sA M0 ad0 nL Z mcT msT (pc + 3) (bc - kc) (bs - ks) ls (xpush v rest) M') → xWx p l e R s m args below meth c D cA A0 sA M0 ad0 nL Z mcT msT pc bc bs ls (as.reverse ++ rest) M)
    (HRI : ∀ (x : Int32) (M' : xM) (pc bc bs : Nat) (ls : xLs), rt (some (.inl x)) M' = some r → decode cc pc = .ok (.ireturn, 1) → xWx p l e R s m args below meth c D cA A0 sA M0 ad0 nL Z mcT msT pc bc bs ls [.inl x] M')
    (HRV : ∀ (M' : xM) (pc bc bs : Nat) (ls : xLs), rt none M' = some r → decode cc pc = .ok (.return_, 1) → xWx p l e R s m args below meth c D cA A0 sA M0 ad0 nL Z mcT msT pc bc bs ls [] M')
    (HCU : ∀ (pc : Nat) (f : Nat → Nat → xLs → List xV → xM → Option ρ), xfind pc cu = some f → ∀ bc bs ls st M, f bc bs ls st M = some r → xWx p l e R s m args below meth c D cA A0 sA M0 ad0 nL Z mcT msT pc bc bs ls st M)
    (hprog : ∀ e ∈ prog, xrow cc nL kd fl nst isInit own e) (hpn : xnext prog = true) :
    ∀ (n : Nat) (code : List xE) (pc bc bs : Nat) (ls : xLs) (st : List xV) (M : xM), (∀ e ∈ code, xrow cc nL kd fl nst isInit own e) → xnext code = true → (∀ b ∈ code.head?, b.2.1 = pc) → xrun prog fl ko nw ca cu rt n code bc bs ls st M = some r → xWx p l e R s m args below meth c D cA A0 sA M0 ad0 nL Z mcT msT pc bc bs ls st M := by
  intro n
  induction n with
  | zero => intro code pc bc bs ls st M _ _ _ h; cases h
  | succ n ih =>
    intro code pc bc bs ls st M h1 h2 h3 h
    match code, h1, h2, h3, h with
    | [], _, _, _, h => cases h
    | (fg, pc', len, tgt, aux, sw, ins) :: code, h1, h2, h3, h =>
      have e1 : pc' = pc := h3 _ rfl
      subst e1
      unfold xrun at h
      match fg, h with
      | 0, h =>
        obtain ⟨r1, r2⟩ := h1 _ List.mem_cons_self
        simp only [Bool.and_eq_true] at r2
        obtain ⟨n1, n2⟩ := xnext_head h2
        refine xexec_sound X hC hP hinit HKO HCA HRI HRV (prog := prog) r1 r2.1.1 r2.1.2 r2.2 (fun bc bs ls st M hg => ?_) (fun t bc bs ls st M hg => ?_) h
        · exact ih code _ bc bs ls st M (fun e he => h1 e (List.mem_cons_of_mem _ he)) n1 (fun b hb => (n2 b hb).symm) hg
        · obtain ⟨j1, j2, j3⟩ := xjump_ok (t := t) hprog hpn
          exact ih _ t bc bs ls st M j1 j2 j3 hg
      | k + 1, h =>
        cases hf : xfind pc' cu with
        | none => rw [hf] at h; cases h
        | some f => rw [hf] at h; exact HCU pc' f hf _ _ _ _ _ h
theorem xat_ok {t : Nat} (hprog : ∀ e ∈ prog, xrow cc nL kd fl nst isInit own e) (hpn : xnext prog = true) : (∀ e ∈ xat t prog, xrow cc nL kd fl nst isInit own e) ∧ xnext (xat t prog) = true ∧ ∀ b ∈ (xat t prog).head?, b.2.1 = t := by
  obtain ⟨j1, j2, j3⟩ := xjump_ok (t := t) hprog hpn
  unfold xat
  match hx : xjump t prog, j1, j2, j3 with
  | [], _, _, _ => exact ⟨fun e h => (by cases h), rfl, fun b h => by cases h⟩
  | (fg, e) :: r, j1, j2, j3 =>
    refine ⟨fun e' he => ?_, ?_, fun b hb => ?_⟩
    · rcases List.mem_cons.mp he with rfl | h
      · exact j1 (fg, e) List.mem_cons_self
      · exact j1 e' (List.mem_cons_of_mem _ h)
    · cases r with
      | nil => rfl
      | cons b r => exact j2
    · cases hb; exact j3 (fg, e) rfl
end XMAIN
