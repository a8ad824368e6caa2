/-! ===== the law's runner is sound ===== -/
/-- the script where it is -/
def xScr (b L : Nat) (scr : Nat → Int32) (s : State) (A0 : Nat → Prop) (sA : Nat → Nat) : Prop := va_X b L scr s s.heap ∧ b < s.heap.size ∧ ¬ A0 b ∧ sA 5 = b
section XLAW
variable {p : Program} {l : Launch} {e : Env} {R : Room} {s : State} {m : MethodId} {args : Array Value} {below : List Frame} {meth : Method} {c : Code} {D : va_G} {cA : Nat → ClassId} {A0 : Nat → Prop} {sA : Nat → Nat} {M0 : xM} {ad0 : Nat → Nat → Nat} {nL : Nat} {cc : ByteArray} {own : String} {Ts : List Cond} {Z : State → Prop} {mcT msT mcT' msT' : Nat}
variable {pc bc bs bc' bs' : Nat} {ls : xLs} {st : List xV} {M : xM} {b L : Nat} {scr : Nat → Int32}
theorem xWx_bud (h : xWx p l e R s m args below meth c D cA A0 sA M0 ad0 nL Z mcT msT pc bc bs ls st M) (h1 : mcT' + bc ≤ mcT + bc') (h2 : msT' + bs ≤ msT + bs') : xWx p l e R s m args below meth c D cA A0 sA M0 ad0 nL Z mcT' msT' pc bc' bs' ls st M :=
  fun ad H locs arr cells slots g1 g2 g3 g4 g5 g6 g7 g8 => h ad H locs arr cells slots g1 g2 g3 g4 g5 g6 (by omega) (by omega)
theorem xs_sld (X : xCtx p R s m args c D cA A0 sA nL cc own Ts mcT msT) (hS : xScr b L scr s A0 sA) {i : Int32} (hd : decode cc pc = .ok (.iaload, 1)) (hi : xin i L = true) (k : xWx p l e R s m args below meth c D cA A0 sA M0 ad0 nL Z mcT msT (pc + 1) bc bs ls (.inl (scr (xi i)) :: st) M) : xWx p l e R s m args below meth c D cA A0 sA M0 ad0 nL Z mcT msT pc bc bs ls (.inl i :: .inr (.inr (30, some 5)) :: st) M := by
  obtain ⟨hx, hb, hml, ho, hts, hK, hA, hmc, hms, hfr, hlo⟩ := X
  obtain ⟨h1, h2, h3, h4⟩ := hS
  intro ad H locs arr cells slots g1 g2 g3 g4 g5 g6 g7 g8
  have e1 : xcv ad (.inr (.inr (30, some 5))) = .ref b := by
    show Value.ref (ad 30 5) = Value.ref b
    rw [g1.1 5, h4]
  show W p l e R s m args below meth c H locs cells slots Z (F0 m pc arr (.int i :: xcv ad (.inr (.inr (30, some 5))) :: st.map (xcv ad)))
  rw [e1]
  exact va_sld hx hb h1 h2 h3 g3 (xin_vp hi) hd (k ad H locs arr cells slots g1 g2 g3 g4 g5 (g6.tail.tail.cons trivial) g7 g8)
theorem xs_scln (X : xCtx p R s m args c D cA A0 sA nL cc own Ts mcT msT) (hS : xScr b L scr s A0 sA) (hd : decode cc pc = .ok (.arraylength, 1)) (k : xWx p l e R s m args below meth c D cA A0 sA M0 ad0 nL Z mcT msT (pc + 1) bc bs ls (.inl (Int32.ofNat L) :: st) M) : xWx p l e R s m args below meth c D cA A0 sA M0 ad0 nL Z mcT msT pc bc bs ls (.inr (.inr (30, some 5)) :: st) M := by
  obtain ⟨hx, hb, hml, ho, hts, hK, hA, hmc, hms, hfr, hlo⟩ := X
  obtain ⟨h1, h2, h3, h4⟩ := hS
  intro ad H locs arr cells slots g1 g2 g3 g4 g5 g6 g7 g8
  have e1 : xcv ad (.inr (.inr (30, some 5))) = .ref b := by
    show Value.ref (ad 30 5) = Value.ref b
    rw [g1.1 5, h4]
  show W p l e R s m args below meth c H locs cells slots Z (F0 m pc arr (xcv ad (.inr (.inr (30, some 5))) :: st.map (xcv ad)))
  rw [e1]
  exact va_slen hx hb h1 h2 h3 g3 hd (k ad H locs arr cells slots g1 g2 g3 g4 g5 (g6.tail.cons trivial) g7 g8)
end XLAW
section XLAW2
variable {p : Program} {l : Launch} {e : Env} {R : Room} {s : State} {m : MethodId} {args : Array Value} {below : List Frame} {meth : Method} {c : Code} {D : va_G} {cA : Nat → ClassId} {A0 : Nat → Prop} {sA : Nat → Nat} {M0 : xM} {ad0 : Nat → Nat → Nat} {nL : Nat} {cc : ByteArray} {own : String} {Ts : List Cond} {Z : State → Prop} {mcT msT : Nat}
variable {ρ : Type} {r : ρ} {prog : List xE} {fl : xFl} {ko : List (Nat × xV)} {nw : xNw} {ca : xCa ρ} {cu : xCu ρ} {rt : Option xV → xM → Option ρ} {kd : List (Nat × Nat)} {nst : Nat} {isInit : Bool} {b L : Nat} {scr : Nat → Int32}
/-- a row fits one byte where it reads the script -/
theorem xaux_1 {pc len tgt : Nat} {aux : Int32} {sw : List (Int32 × Nat)} {ins : Instr} (h : xaux nL pc len tgt aux sw ins = true) (hi : ins = .iaload ∨ ins = .arraylength) : len = 1 := by
  rcases hi with rfl | rfl
  · simpa [xaux] using h
  · simpa [xaux] using h
theorem xscr_sound (X : xCtx p R s m args c D cA A0 sA nL cc own Ts mcT msT) (hS : xScr b L scr s A0 sA) {pc len tgt : Nat} {aux : Int32} {sw : List (Int32 × Nat)} {ins : Instr} (hd : decode cc pc = .ok (ins, len)) (hx1 : xaux nL pc len tgt aux sw ins = true) {bc bs : Nat} {ls : xLs} {st : List xV} {M : xM} {go : List xV → Option ρ} {el : Option ρ} (h : xscr ins st scr L go el = some r)
    (hgo : ∀ st, go st = some r → xWx p l e R s m args below meth c D cA A0 sA M0 ad0 nL Z mcT msT (pc + len) bc bs ls st M) (hel : el = some r → xWx p l e R s m args below meth c D cA A0 sA M0 ad0 nL Z mcT msT pc bc bs ls st M) : xWx p l e R s m args below meth c D cA A0 sA M0 ad0 nL Z mcT msT pc bc bs ls st M := by
  by_cases c1 : ins = .iaload
  · subst c1
    have e0 := xaux_1 hx1 (Or.inl rfl)
    subst e0
    have h' : (pI st fun i st => pR 30 st fun o st => o.bind fun q => match Nat.beq q 5 with
      | true => gd (xin i L) (go (.inl (scr (xi i)) :: st))
      | false => none) = some r := h
    replace h' := pI_some h'
    obtain ⟨i, st1, rfl, h'⟩ := h'
    replace h' := pR_some h'
    obtain ⟨o, st2, rfl, h'⟩ := h'
    replace h' := bd_some h'
    obtain ⟨q, rfl, h'⟩ := h'
    cases hb : Nat.beq q 5 with
    | false => rw [hb] at h'; cases h'
    | true =>
      rw [hb] at h'
      have e5 := Nat.eq_of_beq_eq_true hb
      subst e5
      obtain ⟨g1, g2⟩ := gd_some h'
      exact xs_sld X hS hd g1 (hgo _ g2)
  · by_cases c2 : ins = .arraylength
    · subst c2
      have e0 := xaux_1 hx1 (Or.inr rfl)
      subst e0
      have h' : (pR 30 st fun o st => o.bind fun q => match Nat.beq q 5 with
        | true => go (.inl (Int32.ofNat L) :: st)
        | false => none) = some r := h
      replace h' := pR_some h'
      obtain ⟨o, st2, rfl, h'⟩ := h'
      replace h' := bd_some h'
      obtain ⟨q, rfl, h'⟩ := h'
      cases hb : Nat.beq q 5 with
      | false => rw [hb] at h'; cases h'
      | true =>
        rw [hb] at h'
        have e5 := Nat.eq_of_beq_eq_true hb
        subst e5
        exact xs_scln X hS hd (hgo _ h')
    · refine hel ?_
      unfold xscr at h
      split at h
      · exact absurd rfl c1
      · exact absurd rfl c2
      · exact h
theorem xrunL_sound (X : xCtx p R s m args c D cA A0 sA nL cc own Ts mcT msT) (hS : xScr b L scr s A0 sA) (hC : xcls Ts) (hP : xpool Ts own fl nst nw) (hinit : isInit = true → meth.name = "<init>")
    (HKO : ∀ (idx : Nat) (v : xV), xfind idx ko = some v → xkoE Ts own idx v)
    (HCA : ∀ (idx na kc ks : Nat) (w : List xV → xM → (Option xV → xM → Option ρ) → Option ρ) (kd0 : Nat), xfind idx ca = some (na, kc, ks, w) → xfind idx kd = some kd0 → ∀ (pc bc bs : Nat) (ls : xLs) (as rest : List xV) (M : xM) (k : Option xV → xM → Option ρ), decode cc pc = .ok (xinv kd0 idx, 3) → as.length = na → w as M k = some r → xcats rest ≤ 8 → kc ≤ bc → ks ≤ bs → (∀ v M', k v M' = some r → xWx p l e R s m args below meth c D cA A0 sA M0 ad0 nL Z mcT msT (pc + 3) (bc - kc) (bs - ks) ls (xpush v rest) M') → xWx p l e R s m args below meth c D cA A0 sA M0 ad0 nL Z mcT msT pc bc bs ls (as.reverse ++ rest) M)
    (HRI : ∀ (x : Int32) (M' : xM) (pc bc bs : Nat) (ls : xLs), rt (some (.inl x)) M' = some r → decode cc pc = .ok (.ireturn, 1) → xWx p l e R s m args below meth c D cA A0 sA M0 ad0 nL Z mcT msT pc bc bs ls [.inl x] M')
    (HRV : ∀ (M' : xM) (pc bc bs : Nat) (ls : xLs), rt none M' = some r → decode cc pc = .ok (.return_, 1) → xWx p l e R s m args below meth c D cA A0 sA M0 ad0 nL Z mcT msT pc bc bs ls [] M')
    (HCU : ∀ (pc : Nat) (f : Nat → Nat → xLs → List xV → xM → Option ρ), xfind pc cu = some f → ∀ bc bs ls st M, f bc bs ls st M = some r → xWx p l e R s m args below meth c D cA A0 sA M0 ad0 nL Z mcT msT pc bc bs ls st M)
    (hprog : ∀ e ∈ prog, xrow cc nL kd fl nst isInit own e) (hpn : xnext prog = true) :
    ∀ (n : Nat) (code : List xE) (pc bc bs : Nat) (ls : xLs) (st : List xV) (M : xM), (∀ e ∈ code, xrow cc nL kd fl nst isInit own e) → xnext code = true → (∀ b ∈ code.head?, b.2.1 = pc) → xrunL scr L prog fl ko nw ca cu rt n code bc bs ls st M = some r → xWx p l e R s m args below meth c D cA A0 sA M0 ad0 nL Z mcT msT pc bc bs ls st M := by
  intro n
  induction n with
  | zero => intro code pc bc bs ls st M _ _ _ h; cases h
  | succ n ih =>
    intro code pc bc bs ls st M h1 h2 h3 h
    match code, h1, h2, h3, h with
    | [], _, _, _, h => cases h
    | (fg, pc', len, tgt, aux, sw, ins) :: code, h1, h2, h3, h =>
      have e1 : pc' = pc := h3 _ rfl
      subst e1
      unfold xrunL at h
      match fg, h with
      | 0, h =>
        obtain ⟨r1, r2⟩ := h1 _ List.mem_cons_self
        simp only [Bool.and_eq_true] at r2
        obtain ⟨n1, n2⟩ := xnext_head h2
        refine xscr_sound X hS r1 r2.1.1 h (fun st hg => ?_) (fun h => ?_)
        · exact ih code _ bc bs ls st M (fun e he => h1 e (List.mem_cons_of_mem _ he)) n1 (fun b hb => (n2 b hb).symm) hg
        · refine xexec_sound X hC hP hinit HKO HCA HRI HRV (prog := prog) r1 r2.1.1 r2.1.2 r2.2 (fun bc bs ls st M hg => ?_) (fun t bc bs ls st M hg => ?_) h
          · exact ih code _ bc bs ls st M (fun e he => h1 e (List.mem_cons_of_mem _ he)) n1 (fun b hb => (n2 b hb).symm) hg
          · obtain ⟨j1, j2, j3⟩ := xjump_ok (t := t) hprog hpn
            exact ih _ t bc bs ls st M j1 j2 j3 hg
      | k + 1, h =>
        cases hf : xfind pc' cu with
        | none => rw [hf] at h; cases h
        | some f => rw [hf] at h; exact HCU pc' f hf _ _ _ _ _ h
end XLAW2
