/-! ===== entries of the library's own ===== -/
section XENT2
variable {p : Program} {l : Launch} {e : Env} {R : Room} {s : State} {m : MethodId} {args : Array Value} {below : List Frame} {meth : Method} {c : Code} {D : va_G} {cA : Nat → ClassId} {A0 : Nat → Prop} {sA : Nat → Nat} {M0 : xM} {ad0 : Nat → Nat → Nat} {nL : Nat} {cc : ByteArray} {own : String} {Ts : List Cond} {Z : State → Prop} {mcT msT : Nat}
variable {ρ : Type} {r : ρ} {kd : List (Nat × Nat)}
theorem xe_some {st : List xV} {x : Option ρ} (h : xe st x = some r) : st = [] ∧ x = some r := by
  cases st with
  | nil => exact ⟨rfl, h⟩
  | cons a b => cases h
theorem xz_some {bc bs : Nat} {x : Option ρ} (h : xz bc bs x = some r) : bc = 0 ∧ bs = 0 ∧ x = some r := by
  unfold xz at h
  cases hb : Nat.beq (bc + bs) 0 with
  | true => rw [hb] at h; have := Nat.eq_of_beq_eq_true hb; exact ⟨by omega, by omega, h⟩
  | false => rw [hb] at h; cases h
theorem xcat_sum (ad : Nat → Nat → Nat) : ∀ rest : List xV, ((rest.map (xcv ad)).map fun v => v.category).sum = xcats rest
  | [] => rfl
  | w :: r => by simp only [List.map_cons, List.sum_cons, xcat_cv, xcats]; rw [xcat_sum ad r]
theorem xent_objInit {idx : Nat} (X : xCtx p R s m args c D cA A0 sA nL cc own Ts mcT msT) (hT : ∀ w ∈ xG, w ∈ Ts) (w1 : Cond.methodLink own idx objectInit ∈ xG) (w2 : Cond.instanceMethod objectInit ∈ xG) (w3 : Cond.code objectInit ⟨#[0xb1]⟩ 1 none ∈ xG) (hk1 : xfind idx kd = some 1) :
    xEnt p l e R s m args below meth c D cA A0 sA M0 ad0 nL cc Z mcT msT kd r (idx, 1, 0, 0, w_objInit) := by
  intro kd0 hk pc bc bs ls as rest M k hd hlen hwk hcat hkc hks hcont
  rw [hk1] at hk
  cases hk
  unfold w_objInit at hwk
  replace hwk := pA_some hwk
  obtain ⟨c1, o, as1, rfl, hwk⟩ := hwk
  replace hwk := bd_some hwk
  obtain ⟨a, rfl, hwk⟩ := hwk
  replace hwk := xe_some hwk
  obtain ⟨rfl, hwk⟩ := hwk
  have h9 := hcont none M hwk
  obtain ⟨hx, hb, hml, ho, hts, hK, hA, hmc, hms, hfr, hlo, hstr⟩ := X
  intro ad H locs arr cells slots g1 g2 g3 g4 g5 g6 g7 g8
  have h10 := h9 ad H locs arr cells slots g1 g2 g3 g4 g5 g6.tail g7 g8
  refine W.objInit hx hb ho (hts _ (hT _ w1)) (hts _ (hT _ w2)) (hts _ (hT _ w3)) rfl (by rw [hml]; exact g4.1) (a := ad c1 a) (rest := rest.map (xcv ad)) rfl hd hfr ?_ h10
  show 2 * 0 + _ + 12 ≤ _
  rw [xcat_sum]
  omega
theorem xent_max {idx : Nat} (X : xCtx p R s m args c D cA A0 sA nL cc own Ts mcT msT) (hT : ∀ w ∈ xG, w ∈ Ts) (w1 : Cond.methodLink own idx Lib.Math.max.name ∈ xG) (w2 : Cond.static Lib.Math.max.name ∈ xG) (w3 : Cond.initialized "java/lang/Math" ∈ xG) (w4 : Cond.code Lib.Math.max.name Lib.Math.max.code 2 (some .int) ∈ xG) (hk1 : xfind idx kd = some 2) :
    xEnt p l e R s m args below meth c D cA A0 sA M0 ad0 nL cc Z mcT msT kd r (idx, 2, 0, 0, w_max) := by
  intro kd0 hk pc bc bs ls as rest M k hd hlen hwk hcat hkc hks hcont
  rw [hk1] at hk
  cases hk
  unfold w_max at hwk
  replace hwk := pI_some hwk
  obtain ⟨x, as1, rfl, hwk⟩ := hwk
  replace hwk := pI_some hwk
  obtain ⟨y, as2, rfl, hwk⟩ := hwk
  replace hwk := xe_some hwk
  obtain ⟨rfl, hwk⟩ := hwk
  have h9 := hcont _ M hwk
  obtain ⟨hx, hb, hml, ho, hts, hK, hA, hmc, hms, hfr, hlo, hstr⟩ := X
  intro ad H locs arr cells slots g1 g2 g3 g4 g5 g6 g7 g8
  have h10 := h9 ad H locs arr cells slots g1 g2 g3 g4 g5 (xokS.cons trivial g6.tail.tail) g7 g8
  exact va_mmax (rest := rest.map (xcv ad)) hx hb (hml.trans g4.1.symm) ho (hts _ (hT _ w1)) (hts _ (hT _ w2)) (hts _ (hT _ w3)) (hts _ (hT _ w4)) hfr (show ((rest.map (xcv ad)).map fun v => v.category).sum + 13 ≤ R.locals by rw [xcat_sum]; omega) (by omega) (by omega) hd h10
theorem xent_min {idx : Nat} (X : xCtx p R s m args c D cA A0 sA nL cc own Ts mcT msT) (hT : ∀ w ∈ xG, w ∈ Ts) (w1 : Cond.methodLink own idx Lib.Math.min.name ∈ xG) (w2 : Cond.static Lib.Math.min.name ∈ xG) (w3 : Cond.initialized "java/lang/Math" ∈ xG) (w4 : Cond.code Lib.Math.min.name Lib.Math.min.code 2 (some .int) ∈ xG) (hk1 : xfind idx kd = some 2) :
    xEnt p l e R s m args below meth c D cA A0 sA M0 ad0 nL cc Z mcT msT kd r (idx, 2, 0, 0, w_min) := by
  intro kd0 hk pc bc bs ls as rest M k hd hlen hwk hcat hkc hks hcont
  rw [hk1] at hk
  cases hk
  unfold w_min at hwk
  replace hwk := pI_some hwk
  obtain ⟨x, as1, rfl, hwk⟩ := hwk
  replace hwk := pI_some hwk
  obtain ⟨y, as2, rfl, hwk⟩ := hwk
  replace hwk := xe_some hwk
  obtain ⟨rfl, hwk⟩ := hwk
  have h9 := hcont _ M hwk
  obtain ⟨hx, hb, hml, ho, hts, hK, hA, hmc, hms, hfr, hlo, hstr⟩ := X
  intro ad H locs arr cells slots g1 g2 g3 g4 g5 g6 g7 g8
  have h10 := h9 ad H locs arr cells slots g1 g2 g3 g4 g5 (xokS.cons trivial g6.tail.tail) g7 g8
  exact va_mmin (rest := rest.map (xcv ad)) hx hb (hml.trans g4.1.symm) ho (hts _ (hT _ w1)) (hts _ (hT _ w2)) (hts _ (hT _ w3)) (hts _ (hT _ w4)) hfr (show ((rest.map (xcv ad)).map fun v => v.category).sum + 13 ≤ R.locals by rw [xcat_sum]; omega) (by omega) (by omega) hd h10
theorem xent_arraycopy {idx : Nat} (X : xCtx p R s m args c D cA A0 sA nL cc own Ts mcT msT) (hT : ∀ w ∈ xG, w ∈ Ts) (w1 : Cond.methodLink own idx arraycopyName ∈ xG) (w2 : Cond.native arraycopyName ∈ xG) (w3 : Cond.static arraycopyName ∈ xG) (w4 : Cond.initialized "java/lang/System" ∈ xG) (hk1 : xfind idx kd = some 2) :
    xEnt p l e R s m args below meth c D cA A0 sA M0 ad0 nL cc Z mcT msT kd r (idx, 5, 0, 0, w_arraycopy) := by
  intro kd0 hk pc bc bs ls as rest M k hd hlen hwk hcat hkc hks hcont
  rw [hk1] at hk
  cases hk
  unfold w_arraycopy at hwk
  replace hwk := pA_some hwk
  obtain ⟨c1, o1, as1, rfl, hwk⟩ := hwk
  replace hwk := pI_some hwk
  obtain ⟨sp, as2, rfl, hwk⟩ := hwk
  replace hwk := pA_some hwk
  obtain ⟨c2, o2, as3, rfl, hwk⟩ := hwk
  replace hwk := pI_some hwk
  obtain ⟨dp, as4, rfl, hwk⟩ := hwk
  replace hwk := pI_some hwk
  obtain ⟨n, as5, rfl, hwk⟩ := hwk
  replace hwk := xe_some hwk
  obtain ⟨rfl, hwk⟩ := hwk
  cases hb1 : (Nat.beq c1 c2 && (Nat.beq c1 20 || Nat.beq c1 22)) with
  | false => simp only [hb1] at hwk; cases hwk
  | true =>
    simp only [hb1] at hwk
    simp only [Bool.and_eq_true, Bool.or_eq_true] at hb1
    have e1 := Nat.eq_of_beq_eq_true hb1.1
    subst e1
    have hc1 : c1 = 20 ∨ c1 = 22 := hb1.2.elim (fun z => Or.inl (Nat.eq_of_beq_eq_true z)) (fun z => Or.inr (Nat.eq_of_beq_eq_true z))
    replace hwk := bd_some hwk
    obtain ⟨a, rfl, hwk⟩ := hwk
    replace hwk := bd_some hwk
    obtain ⟨b, rfl, hwk⟩ := hwk
    obtain ⟨hok, hwk⟩ := gd_some hwk
    have h9 := hcont none _ hwk
    obtain ⟨hx, hb, hml, ho, hts, hK, hA, hmc, hms, hfr, hlo, hstr⟩ := X
    intro ad H locs arr cells slots g1 g2 g3 g4 g5 g6 g7 g8
    have ha : a < gA M c1 := vok_ref (g6 (.inr (.inr (c1, some a))) (by simp)) (by omega)
    have hbb : b < gA M c1 := vok_ref (g6 (.inr (.inr (c1, some b))) (by simp)) (by omega)
    have hrest : xokS M rest := fun w hw => g6 w (List.mem_append_right _ hw)
    obtain ⟨q0, hq0, hr0⟩ := g2.pos ha
    obtain ⟨q1, hq1, hr1⟩ := g2.pos hbb
    rw [xcell_arr (by omega)] at hr0 hr1
    unfold xcpok at hok
    simp only [decide_eq_true_eq] at hok
    obtain ⟨k1, k2, k3, k4, k5⟩ := hok
    have nn : ∀ z : Int32, 0 ≤ z.toInt → ¬ z < 0 ∧ z.toInt = (z.toNatClampNeg : Int) := by
      intro z hz
      have h0 : ¬ z < 0 := by rw [Int32.lt_iff_toInt_lt, Int32.toInt_zero]; omega
      obtain ⟨j, hj, rfl⟩ := nI_of h0
      exact ⟨h0, by rw [nI_toInt hj, nI_clamp hj]⟩
    obtain ⟨n1, m1⟩ := nn sp k1
    obtain ⟨n2, m2⟩ := nn dp k2
    obtain ⟨n3, m3⟩ := nn n k3
    have key : ∀ (t0 : Nat) (ty : FieldType), (xtys cA)[t0]? = some (cA c1, ty) → refKind ty = false → (∀ i, i < n.toNatClampNeg → fits ty (.int (gI M c1 a (sp.toNatClampNeg + i))) = true) → W p l e R s m args below meth c H locs cells slots Z (F0 m pc arr (.int n :: .int dp :: .ref (ad c1 b) :: .int sp :: .ref (ad c1 a) :: rest.map (xcv ad))) := by
      intro t0 ty ht hp hf
      refine va_copyi (rest := rest.map (xcv ad)) hx hb (hml.trans g4.1.symm) ho (hts _ (hT _ w1)) (hts _ (hT _ w2)) (hts _ (hT _ w3)) (hts _ (hT _ w4)) hK g2.P g2.dis g3 q0 q1 t0 t0 hr0 hr1 ht ht hp n1 n2 n3 (by omega) (by omega) hf hfr (show ((rest.map (xcv ad)).map fun v => v.category).sum + (5 + 2 + 11) ≤ R.locals by rw [xcat_sum]; omega) hd (fun H1 locs1 hP1 _ hS1 => ?_)
      refine h9 ad H1 locs1 arr cells slots g1 (g2.set hbb hq1 ?_ hP1 ?_ (fun _ => rfl) (fun cx sx k s' h hr => g2.2.2.1 cx sx k s' h hr) ?_) hS1 g4 (fun q hq => vok_same (fun _ => rfl) (g5 q hq)) (fun q hq => vok_same (fun _ => rfl) (hrest q hq)) g7 g8
      · rw [xcell_arr (by omega)]
        congr 2
        show _ = (_, _)
        congr 1
        refine congrArg _ ?_
        funext j
        show va_cpy (gI M c1 a) (gI M c1 b) (xi sp) (xi dp) (xi n) j = if c1 = c1 ∧ b = b ∧ xi dp ≤ j ∧ j < xi dp + xi n then gI M c1 a (xi sp + (j - xi dp)) else gI M c1 b j
        unfold va_cpy
        by_cases h : xi dp ≤ j ∧ j < xi dp + xi n
        · rw [if_pos h, if_pos ⟨rfl, rfl, h⟩]
        · rw [if_neg h, if_neg (fun z => h z.2.2)]
      · intro cx sx hsx hne
        refine xcell_congr ?_ rfl rfl rfl (fun _ _ _ => rfl)
        funext j
        show (if cx = c1 ∧ sx = b ∧ xi dp ≤ j ∧ j < xi dp + xi n then _ else gI M cx sx j) = _
        rw [if_neg (fun z => hne ⟨z.1, z.2.1⟩)]
      · intro sx j hsx
        show xbool (if 22 = c1 ∧ sx = b ∧ xi dp ≤ j ∧ j < xi dp + xi n then gI M c1 a (xi sp + (j - xi dp)) else gI M 22 sx j) = true
        split
        · rename_i z
          obtain ⟨z, -⟩ := z
          subst z
          exact g2.2.2.2 a _ ha
        · exact g2.2.2.2 sx j hsx
    rcases hc1 with rfl | rfl
    · exact key 0 .int rfl rfl (fun _ _ => rfl)
    · exact key 2 .boolean rfl rfl (fun i _ => g2.2.2.2 a _ ha)
theorem xWx_ls {pc bc bs : Nat} {ls0 ls : xLs} {st : List xV} {M : xM} (h : xWx p l e R s m args below meth c D cA A0 sA M0 ad0 nL Z mcT msT pc bc bs ls0 st M) (hs : ∀ q ∈ ls0, xlook q.1 ls = some q.2) : xWx p l e R s m args below meth c D cA A0 sA M0 ad0 nL Z mcT msT pc bc bs ls st M := by
  intro ad H locs arr cells slots g1 g2 g3 g4 g5 g6 g7 g8
  refine h ad H locs arr cells slots g1 g2 g3 (lv_mono g4 (fun q hq => ?_)) (fun q hq => g5.look (hs q hq)) g6 g7 g8
  obtain ⟨w, hw, rfl⟩ := List.mem_map.mp hq
  exact List.mem_map.mpr ⟨w, xlook_mem (hs w hw), rfl⟩
/-- a handler of a cut is sound here -/
def xCutS (p : Program) (l : Launch) (e : Env) (R : Room) (s : State) (m : MethodId) (args : Array Value) (below : List Frame) (meth : Method) (c : Code) (D : va_G) (cA : Nat → ClassId) (A0 : Nat → Prop) (sA : Nat → Nat) (M0 : xM) (ad0 : Nat → Nat → Nat) (nL : Nat) (Z : State → Prop) (mcT msT : Nat) {ρ : Type} (r : ρ) (q : Nat × (Nat → Nat → xLs → List xV → xM → Option ρ)) : Prop :=
  ∀ bc bs ls st M, q.2 bc bs ls st M = some r → xWx p l e R s m args below meth c D cA A0 sA M0 ad0 nL Z mcT msT q.1 bc bs ls st M
theorem xcuts {cu : xCu ρ} (h : ∀ q ∈ cu, xCutS p l e R s m args below meth c D cA A0 sA M0 ad0 nL Z mcT msT r q) : ∀ (pc : Nat) (f : Nat → Nat → xLs → List xV → xM → Option ρ), xfind pc cu = some f → ∀ bc bs ls st M, f bc bs ls st M = some r → xWx p l e R s m args below meth c D cA A0 sA M0 ad0 nL Z mcT msT pc bc bs ls st M :=
  fun _ _ hf => h _ (xfind_mem hf)
end XENT2
section XRET
variable {p : Program} {l : Launch} {e : Env} {R : Room} {s : State} {m : MethodId} {args : Array Value} {below : List Frame} {meth : Method} {c : Code} {D : va_G} {cA : Nat → ClassId} {A0 : Nat → Prop} {sA : Nat → Nat} {M0 : xM} {ad0 : Nat → Nat → Nat} {nL : Nat} {cc : ByteArray} {Z : State → Prop} {mcT msT : Nat}
theorem endI {rr : Int32 × xM} (hE : xEnd l D cA sA cc nL (some .int) R mcT msT (some (.inl rr.1)) rr.2 p e s m args below meth c A0 M0 ad0 Z) :
    (∀ (x : Int32) (M' : xM) (pc bc bs : Nat) (ls : xLs), xrtI (some (.inl x)) M' = some rr → decode cc pc = .ok (.ireturn, 1) → xWx p l e R s m args below meth c D cA A0 sA M0 ad0 nL Z mcT msT pc bc bs ls [.inl x] M') ∧
    (∀ (M' : xM) (pc bc bs : Nat) (ls : xLs), xrtI none M' = some rr → decode cc pc = .ok (.return_, 1) → xWx p l e R s m args below meth c D cA A0 sA M0 ad0 nL Z mcT msT pc bc bs ls [] M') := by
  refine ⟨fun x M' pc bc bs ls h hd => ?_, fun M' pc bc bs ls h hd => by cases h⟩
  have e1 : (x, M') = rr := Option.some.inj h
  subst e1
  exact hE pc bc bs ls .ireturn hd (Or.inl ⟨rfl, x, .int, rfl, rfl, rfl⟩)
theorem endZ {rr : Int32 × xM} (hE : xEnd l D cA sA cc nL (some .boolean) R mcT msT (some (.inl rr.1)) rr.2 p e s m args below meth c A0 M0 ad0 Z) :
    (∀ (x : Int32) (M' : xM) (pc bc bs : Nat) (ls : xLs), xrtZ (some (.inl x)) M' = some rr → decode cc pc = .ok (.ireturn, 1) → xWx p l e R s m args below meth c D cA A0 sA M0 ad0 nL Z mcT msT pc bc bs ls [.inl x] M') ∧
    (∀ (M' : xM) (pc bc bs : Nat) (ls : xLs), xrtZ none M' = some rr → decode cc pc = .ok (.return_, 1) → xWx p l e R s m args below meth c D cA A0 sA M0 ad0 nL Z mcT msT pc bc bs ls [] M') := by
  refine ⟨fun x M' pc bc bs ls h hd => ?_, fun M' pc bc bs ls h hd => by cases h⟩
  obtain ⟨hb, h⟩ := gd_some h
  have e1 : (x, M') = rr := Option.some.inj h
  subst e1
  exact hE pc bc bs ls .ireturn hd (Or.inl ⟨rfl, x, .boolean, rfl, rfl, narrow_bool hb⟩)
theorem endC {rr : Int32 × xM} (hE : xEnd l D cA sA cc nL (some .char) R mcT msT (some (.inl rr.1)) rr.2 p e s m args below meth c A0 M0 ad0 Z) :
    (∀ (x : Int32) (M' : xM) (pc bc bs : Nat) (ls : xLs), xrtC (some (.inl x)) M' = some rr → decode cc pc = .ok (.ireturn, 1) → xWx p l e R s m args below meth c D cA A0 sA M0 ad0 nL Z mcT msT pc bc bs ls [.inl x] M') ∧
    (∀ (M' : xM) (pc bc bs : Nat) (ls : xLs), xrtC none M' = some rr → decode cc pc = .ok (.return_, 1) → xWx p l e R s m args below meth c D cA A0 sA M0 ad0 nL Z mcT msT pc bc bs ls [] M') := by
  refine ⟨fun x M' pc bc bs ls h hd => ?_, fun M' pc bc bs ls h hd => by cases h⟩
  obtain ⟨hb, h⟩ := gd_some h
  have e1 : (x, M') = rr := Option.some.inj h
  subst e1
  exact hE pc bc bs ls .ireturn hd (Or.inl ⟨rfl, x, .char, rfl, rfl, (narrow_char hb).1⟩)
theorem endV {rr : xM} (hE : xEnd l D cA sA cc nL none R mcT msT none rr p e s m args below meth c A0 M0 ad0 Z) :
    (∀ (x : Int32) (M' : xM) (pc bc bs : Nat) (ls : xLs), xrtV (some (.inl x)) M' = some rr → decode cc pc = .ok (.ireturn, 1) → xWx p l e R s m args below meth c D cA A0 sA M0 ad0 nL Z mcT msT pc bc bs ls [.inl x] M') ∧
    (∀ (M' : xM) (pc bc bs : Nat) (ls : xLs), xrtV none M' = some rr → decode cc pc = .ok (.return_, 1) → xWx p l e R s m args below meth c D cA A0 sA M0 ad0 nL Z mcT msT pc bc bs ls [] M') := by
  refine ⟨(fun x M' pc bc bs ls h hd => by cases h), fun M' pc bc bs ls h hd => ?_⟩
  have e1 : M' = rr := Option.some.inj h
  subst e1
  exact hE pc bc bs ls .return_ hd (Or.inr ⟨rfl, rfl, rfl⟩)
end XRET
/-! what the pools give -/
theorem xpool_mono {A B : List Cond} {own : String} {fl : xFl} {nst : Nat} {nw : xNw} (h : ∀ w ∈ A, w ∈ B) (hp : xpool A own fl nst nw) : xpool B own fl nst nw := by
  refine ⟨fun idx ci k t hf => ?_, fun idx ci k t hf hn C T N hc => h _ (hp.2.1 idx ci k t hf hn C T N hc), fun idx ci nf hf => ?_, fun t ht => h _ (hp.2.2.2 t ht)⟩
  · obtain ⟨C, T, N, h1, h2, h3, h4, h5⟩ := hp.1 idx ci k t hf
    exact ⟨C, T, N, h1, h2, h3, h4, h5.elim (fun z => Or.inl (h _ z)) Or.inr⟩
  · obtain ⟨C, T, h1, h2, h3, h4, h5, h6⟩ := hp.2.2.1 idx ci nf hf
    exact ⟨C, T, h1, h2, h _ h3, h _ h4, h _ h5, h6⟩
theorem xcls_mono {A B : List Cond} (h : ∀ w ∈ A, w ∈ B) (hp : xcls A) : xcls B := by
  intro ci C T N hc
  obtain ⟨h1, h2, h3⟩ := hp ci C T N hc
  exact ⟨fun w hw => h _ (h1 w hw), h2, h3⟩
theorem xkoE_mono {A B : List Cond} {own : String} {idx : Nat} {v : xV} (h : ∀ w ∈ A, w ∈ B) (hp : xkoE A own idx v) : xkoE B own idx v := by
  rcases v with x | x | ⟨c1, o⟩
  · exact h _ hp
  · exact h _ hp
  · exact hp
def xflQ (own : String) (nst : Nat) (q : Nat × Nat × Nat × Nat) : Prop := xfl xG own q.1 q.2.1 q.2.2.1 q.2.2.2 ∧ (q.1 ≠ nst → ∀ (C : String) (T : u_T) (N : Nat), vwCl[q.2.1]? = some (C, T, N) → Cond.fieldLink own q.1 (T q.2.2.1).1 (T q.2.2.1).2.1 (T q.2.2.1).2.2.1 ∈ xG)
theorem xfl_mk {own : String} {nst idx ci k t : Nat} {C : String} {T : u_T} {N : Nat} (i : Nat) (hc : vwCl[ci]? = some (C, T, N)) (h : (decide (ci < 13) && decide (k < N) && decide (t = xft ci k) && decide (lw_tbl[i]? = some (Cond.fieldLink own idx (T k).1 (T k).2.1 (T k).2.2.1)) && goodWord (Cond.fieldLink own idx (T k).1 (T k).2.1 (T k).2.2.1)) = true) : xflQ own nst (idx, ci, k, t) := by
  simp only [Bool.and_eq_true, decide_eq_true_eq] at h
  obtain ⟨⟨⟨⟨h1, h2⟩, h3⟩, h4⟩, h5⟩ := h
  have hm := xg i h4 h5
  exact ⟨⟨C, T, N, hc, h1, h2, h3, Or.inl hm⟩, fun _ C' T' N' hc' => by rw [hc] at hc'; cases hc'; exact hm⟩
theorem xfl_mkN {own host : String} {idx ci k t : Nat} {C : String} {T : u_T} {N : Nat} (hc : vwCl[ci]? = some (C, T, N)) (h : (decide (ci < 13) && decide (k < N) && decide (t = xft ci k) && decide (Cond.fieldLinkNest own idx (T k).1 (T k).2.1 (T k).2.2.1 host ∈ xNwL)) = true) : xflQ own idx (idx, ci, k, t) := by
  simp only [Bool.and_eq_true, decide_eq_true_eq] at h
  obtain ⟨⟨⟨h1, h2⟩, h3⟩, h4⟩ := h
  exact ⟨⟨C, T, N, hc, h1, h2, h3, Or.inr ⟨host, h4⟩⟩, fun z => absurd rfl z⟩
def xnwQ (own : String) (q : Nat × Nat × Nat) : Prop := ∃ (C : String) (T : u_T), vwCl[q.2.1]? = some (C, T, q.2.2) ∧ q.2.1 < 13 ∧ Cond.classLink own q.1 C ∈ xG ∧ Cond.instantiable C q.2.2 ∈ xG ∧ Cond.initialized C ∈ xG ∧ (q.2.1 = 1 ∨ q.2.1 = 2 → Cond.arrayOver (.object C) ∈ xNwL)
theorem xpool_mk {own : String} {fl : xFl} {nst : Nat} {nw : xNw} (h1 : ∀ q ∈ fl, xflQ own nst q) (h2 : ∀ q ∈ nw, xnwQ own q) (h3 : ∀ t : ArrayType, t = .int ∨ t = .long ∨ t = .boolean ∨ t = .char → Cond.arrayClass (newarray.typeOf t) ∈ xG) : xpool xG own fl nst nw :=
  ⟨fun _ _ _ _ hf => (h1 _ (xfind_mem hf)).1, fun _ _ _ _ hf => (h1 _ (xfind_mem hf)).2, fun _ _ _ hf => h2 _ (xfind_mem hf), h3⟩
def xtyok (t : Nat) (ty : FieldType) : Bool := decide (t < 34) && (match t with
  | 0 => decide (ty = .int)
  | 1 => decide (ty = .long)
  | 2 => decide (ty = .boolean)
  | 3 => decide (ty = .char)
  | _ + 4 => refKind ty)
def xClsP (ci : Nat) (C : String) (T : u_T) (N : Nat) : Prop := (∀ w ∈ u_ws C T N, w ∈ xG) ∧ (∀ a, a < N → ∀ b, b < N → a ≠ b → (T a).2.1 ≠ (T b).2.1) ∧ ∃ ty0 : Nat → FieldType, (∀ k, k < N → parseFieldDescriptor (T k).2.2.1 = some (ty0 k)) ∧ ∀ k, k < N → (∀ n, xft ci k = n + 4 → refKind (ty0 k) = true) ∧ (xft ci k = 0 → ty0 k = .int) ∧ (xft ci k = 1 → ty0 k = .long) ∧ (xft ci k = 2 → ty0 k = .boolean) ∧ (xft ci k = 3 → ty0 k = .char) ∧ xft ci k < 34
theorem xcls_mk {ci : Nat} {C : String} {T : u_T} {N : Nat} {ty0 : Nat → FieldType} (ps : List Nat) (hw : (u_ws C T N).map some = ps.map (fun i => lw_tbl[i]?)) (hg : (u_ws C T N).all goodWord = true) (hn : ∀ a, a < N → ∀ b, b < N → a ≠ b → (T a).2.1 ≠ (T b).2.1) (ht : ∀ k, k < N → parseFieldDescriptor (T k).2.2.1 = some (ty0 k)) (hk : ∀ k, k < N → xtyok (xft ci k) (ty0 k) = true) :
    xClsP ci C T N := by
  refine ⟨fun w hw' => ?_, hn, ty0, ht, fun k hk' => ?_⟩
  · have h1 : some w ∈ (u_ws C T N).map some := List.mem_map.mpr ⟨w, hw', rfl⟩
    rw [hw] at h1
    obtain ⟨i, -, hi⟩ := List.mem_map.mp h1
    exact xg i hi (List.all_eq_true.mp hg w hw')
  · have h1 := hk k hk'
    unfold xtyok at h1
    simp only [Bool.and_eq_true, decide_eq_true_eq] at h1
    obtain ⟨h0, h1⟩ := h1
    generalize xft ci k = t at h0 h1
    match t, h1 with
    | 0, h1 => exact ⟨fun n z => by omega, fun _ => by simpa using h1, fun z => by omega, fun z => by omega, fun z => by omega, h0⟩
    | 1, h1 => exact ⟨fun n z => by omega, fun z => by omega, fun _ => by simpa using h1, fun z => by omega, fun z => by omega, h0⟩
    | 2, h1 => exact ⟨fun n z => by omega, fun z => by omega, fun z => by omega, fun _ => by simpa using h1, fun z => by omega, h0⟩
    | 3, h1 => exact ⟨fun n z => by omega, fun z => by omega, fun z => by omega, fun z => by omega, fun _ => by simpa using h1, h0⟩
    | n + 4, h1 => exact ⟨fun n' _ => h1, fun z => by omega, fun z => by omega, fun z => by omega, fun z => by omega, h0⟩
def xrowB (cc : ByteArray) (nL : Nat) (kd : List (Nat × Nat)) (fl : xFl) (nst : Nat) (isInit : Bool) (own : String) (e : xE) : Bool :=
  decide (decode cc e.2.1 = .ok (e.2.2.2.2.2.2, e.2.2.1)) && (xaux nL e.2.1 e.2.2.1 e.2.2.2.1 e.2.2.2.2.1 e.2.2.2.2.2.1 e.2.2.2.2.2.2 && xkdok kd e.2.2.2.2.2.2 && xpok fl nst isInit own e.2.2.2.2.2.2)
theorem xrows {cc : ByteArray} {nL : Nat} {kd : List (Nat × Nat)} {fl : xFl} {nst : Nat} {isInit : Bool} {own : String} {prog : List xE} (h : (prog.all (xrowB cc nL kd fl nst isInit own) && xnext prog) = true) : (∀ e ∈ prog, xrow cc nL kd fl nst isInit own e) ∧ xnext prog = true := by
  simp only [Bool.and_eq_true, List.all_eq_true] at h
  refine ⟨fun e he => ?_, h.2⟩
  have := h.1 e he
  unfold xrowB at this
  rw [Bool.and_eq_true, decide_eq_true_eq] at this
  exact this
