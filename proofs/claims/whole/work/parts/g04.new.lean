/-! ===== new cells, constants, switches, calls ===== -/
section XNEW
variable {p : Program} {l : Launch} {e : Env} {R : Room} {s : State} {m : MethodId} {args : Array Value} {below : List Frame} {meth : Method} {c : Code} {D : va_G} {cA : Nat → ClassId} {A0 : Nat → Prop} {sA : Nat → Nat} {M0 : xM} {ad0 : Nat → Nat → Nat} {nL : Nat} {cc : ByteArray} {own : String} {Ts : List Cond} {Z : State → Prop} {mcT msT : Nat}
variable {pc bc bs : Nat} {ls : xLs} {st : List xV} {M : xM}
theorem xlc_add {ad : Nat → Nat → Nat} {c0 q : Nat} (h : xokL M ls) (h30 : c0 ≠ 30) : xlc (xadd ad c0 (gA M c0) q) ls = xlc ad ls := by
  unfold xlc
  refine List.map_congr_left (fun w hw => ?_)
  rw [xcv_add (h w hw) h30]
theorem xst_add {ad : Nat → Nat → Nat} {c0 q : Nat} (h : xokS M st) (h30 : c0 ≠ 30) : st.map (xcv (xadd ad c0 (gA M c0) q)) = st.map (xcv ad) :=
  List.map_congr_left (fun w hw => xcv_add (h w hw) h30)
theorem xs_added {ad : Nat → Nat → Nat} {H1 : Heap} {locs1 : List Loc} {arr : Array Slot} {cells slots c0 n q pc2 : Nat} {H : Heap} {e0 : va_E} (g1 : xFix sA M0 ad0 ad M) (g2 : xWd D cA ad A0 M H) (g4 : lv_has arr nL (xlc ad ls)) (g5 : xokL M ls) (g6 : xokS M st)
    (hk : xkind c0) (he : e0 = xcell cA (xadd ad c0 (gA M c0) q) (nC M c0 n) c0 (gA M c0)) (hP : va_P D vwCl (xws cA ad M ++ [(q, e0)]) H1) (hD : va_D A0 (xws cA ad M ++ [(q, e0)])) (hS : va_S A0 s.heap H1 locs1) (g7 : cells + bc ≤ mcT) (g8 : slots + bs ≤ msT)
    (k : xWx p l e R s m args below meth c D cA A0 sA M0 ad0 nL Z mcT msT pc2 bc bs ls (.inr (.inr (c0, some (gA M c0))) :: st) (nC M c0 n)) : W p l e R s m args below meth c H1 locs1 cells slots Z (F0 m pc2 arr (.ref q :: st.map (xcv ad))) := by
  have h30 : c0 ≠ 30 := by have := xkind_lt hk; omega
  have e1 : xadd ad c0 (gA M c0) q c0 (gA M c0) = q := by unfold xadd; rw [if_pos ⟨rfl, rfl⟩]
  have hv : vok (nC M c0 n) (.inr (.inr (c0, some (gA M c0)))) := by left; rw [gA_nC, if_pos rfl]; omega
  have h9 := k (xadd ad c0 (gA M c0) q) H1 locs1 arr cells slots ⟨fun z => by unfold xadd; rw [if_neg (fun w => h30 w.1.symm)]; exact g1.1 z, fun cx sx h => ⟨by
    have := (g1.2 cx sx h).1
    rw [gA_nC]
    split
    · rename_i z; rw [z] at this; omega
    · exact this, by
    have := (g1.2 cx sx h).1
    unfold xadd
    rw [if_neg (fun w => by rw [w.1, w.2] at this; exact Nat.lt_irrefl _ this)]
    exact (g1.2 cx sx h).2⟩⟩ (g2.add hk he hP hD) hS (by rw [xlc_add g5 h30]; exact g4) (fun w hw => vok_nC (g5 w hw)) (xokS.cons hv (fun w hw => vok_nC (g6 w hw))) g7 g8
  rw [List.map_cons, xst_add g6 h30] at h9
  rw [show xcv (xadd ad c0 (gA M c0) q) (.inr (.inr (c0, some (gA M c0)))) = .ref q from congrArg Value.ref e1] at h9
  exact h9
theorem xs_new (X : xCtx p R s m args c D cA A0 sA nL cc own Ts mcT msT) (hC : xcls Ts) {idx ci nf : Nat} (hd : decode cc pc = .ok (.new idx, 3)) (hw : ∃ (C : String) (T : u_T), vwCl[ci]? = some (C, T, nf) ∧ ci < 13 ∧ Cond.classLink own idx C ∈ Ts ∧ Cond.instantiable C nf ∈ Ts ∧ Cond.initialized C ∈ Ts) (hbs : nf ≤ bs)
    (k : xWx p l e R s m args below meth c D cA A0 sA M0 ad0 nL Z mcT msT (pc + 3) bc (bs - nf) ls (.inr (.inr (ci, some (gA M ci))) :: st) (nC M ci 0)) : xWx p l e R s m args below meth c D cA A0 sA M0 ad0 nL Z mcT msT pc (bc + 1) bs ls st M := by
  obtain ⟨hx, hb, hml, ho, hts, hK, hA, hmc, hms, hfr, hlo⟩ := X
  intro ad H locs arr cells slots g1 g2 g3 g4 g5 g6 g7 g8
  obtain ⟨C, T, hc, hci, w1, w2, w3⟩ := hw
  obtain ⟨hin, hnm, ty0, hty, htyk⟩ := hC ci C T nf hc
  refine va_new (fs := (List.range (xnf ci)).map (fun k => xcv ad (xget (nC M ci 0) ci (gA M ci) k (xft ci k)))) hx hb hts hin ty0 hty ho (hts _ w1) (hts _ w2) (hts _ w3) hK g2.P g2.dis g3 hA hc (fun j hj => ?_) (by omega) (by omega) hd (fun q H1 hP1 hD1 hS1 => ?_)
  · unfold vp_V
    rw [List.getD_eq_getElem?_getD, List.getElem?_map, List.getElem?_range (by rw [xnf_of hc]; exact hj)]
    obtain ⟨t1, t2, t3, t4, t5, -⟩ := htyk j hj
    show _ = xcv ad (xget (nC M ci 0) ci (gA M ci) j (xft ci j))
    generalize xft ci j = t at t1 t2 t3 t4 t5
    unfold xget
    match t with
    | 0 => rw [t2 rfl, gI_nC, if_pos ⟨rfl, rfl⟩]; rfl
    | 1 => rw [t3 rfl, gL_nC, if_pos ⟨rfl, rfl⟩]; rfl
    | 2 => rw [t4 rfl, gI_nC, if_pos ⟨rfl, rfl⟩]; rfl
    | 3 => rw [t5 rfl, gI_nC, if_pos ⟨rfl, rfl⟩]; rfl
    | n + 4 =>
      have := t1 n rfl
      simp only [gR_nC, if_pos (And.intro rfl rfl : ci = ci ∧ gA M ci = gA M ci)]
      cases hz : ty0 j <;> first | rfl | (rw [hz] at this; exact absurd this (by decide))
  · refine xs_added g1 g2 g4 g5 g6 (Or.inl hci) ?_ hP1 hD1 hS1 (by omega) (by omega) k
    rw [xcell_obj hci]
    congr 2
    refine List.map_congr_left (fun j _ => ?_)
    exact (xget_congr rfl rfl rfl (fun s' hr n hn => by rw [gR_nC, if_pos ⟨rfl, rfl⟩] at hr; cases hr)).symm
theorem xs_newarr (X : xCtx p R s m args c D cA A0 sA nL cc own Ts mcT msT) {at0 : ArrayType} {n : Int32} {N : Nat} (hat : at0 = .int ∨ at0 = .long ∨ at0 = .boolean ∨ at0 = .char) (hd : decode cc pc = .ok (.newarray at0, 2)) (hn : n = Int32.ofNat N) (hN : N ≤ 100000) (hw : Cond.arrayClass (newarray.typeOf at0) ∈ Ts) (hbs : N ≤ bs)
    (k : xWx p l e R s m args below meth c D cA A0 sA M0 ad0 nL Z mcT msT (pc + 2) bc (bs - N) ls (.inr (.inr (xacode at0, some (gA M (xacode at0)))) :: st) (nC M (xacode at0) N)) : xWx p l e R s m args below meth c D cA A0 sA M0 ad0 nL Z mcT msT pc (bc + 1) bs ls (.inl n :: st) M := by
  obtain ⟨hx, hb, hml, ho, hts, hK, hA, hmc, hms, hfr, hlo⟩ := X
  intro ad H locs arr cells slots g1 g2 g3 g4 g5 g6 g7 g8
  have h0 : ¬ n < 0 := by rw [hn]; exact nI_pos (by omega)
  have h1 : n.toNatClampNeg = N := by rw [hn]; exact nI_clamp (by omega)
  have same : ∀ (ty : FieldType) (k t0 : Nat) (cx cy : ClassId), (xtys cA)[t0]? = some (cx, ty) → (∀ C, ty ≠ .object C) → va_K D vwCl (xtys cA ++ [(cy, ty)]) s → cy = cx := by
    intro ty k t0 cx cy h1 h2 h3
    have e1 := (hK.2 t0 _ h1).2
    have e2 := (h3.2 (xtys cA).length _ (by rw [List.getElem?_append_right (Nat.le_refl _), Nat.sub_self]; rfl)).2
    unfold va_RA at e1 e2
    cases ty with
    | object C => exact absurd rfl (h2 C)
    | _ => exact Option.some.inj (e2.symm.trans e1)
  rcases hat with rfl | rfl | rfl | rfl
  · refine va_newa (atype := .int) (ty := .int) (a0 := (N, .inl (fun _ => 0))) hx hb (hts _ hw) rfl hK g2.P g2.dis g3 hA (fun _ => rfl) h0 h1 (by show N * 4 ≤ _; omega) (by omega) (by omega) hd (fun q cy H1 hK1 hP1 hD1 hS1 => ?_)
    obtain rfl := same .int 0 0 (cA 20) cy rfl (fun C h => by cases h) hK1
    refine xs_added (n := N) g1 g2 g4 g5 g6.tail (Or.inr (by decide)) ?_ hP1 hD1 hS1 (by omega) (by omega) k
    rw [xcell_arr (by decide), gN_nC, if_pos ⟨rfl, rfl⟩]
    have : gI (nC M 20 N) 20 (gA M 20) = fun _ => 0 := by funext j; rw [gI_nC, if_pos ⟨rfl, rfl⟩]
    show _ = Sum.inl (cA 20, N, Sum.inl (gI (nC M 20 N) 20 (gA M 20)))
    rw [this]
  · refine va_newa (atype := .long) (ty := .long) (a0 := (N, .inr (.inl (fun _ => 0)))) hx hb (hts _ hw) rfl hK g2.P g2.dis g3 hA (fun _ => rfl) h0 h1 (by show N * 8 ≤ _; omega) (by omega) (by omega) hd (fun q cy H1 hK1 hP1 hD1 hS1 => ?_)
    obtain rfl := same .long 0 1 (cA 21) cy rfl (fun C h => by cases h) hK1
    refine xs_added (n := N) g1 g2 g4 g5 g6.tail (Or.inr (by decide)) ?_ hP1 hD1 hS1 (by omega) (by omega) k
    show _ = xcell cA _ _ 21 _
    rw [xcell_arrL, gN_nC, if_pos ⟨rfl, rfl⟩]
    have : gL (nC M 21 N) 21 (gA M 21) = fun _ => 0 := by funext j; rw [gL_nC, if_pos ⟨rfl, rfl⟩]
    show _ = Sum.inl (cA 21, N, Sum.inr (Sum.inl (gL (nC M 21 N) 21 (gA M 21))))
    rw [this]
  · refine va_newa (atype := .boolean) (ty := .boolean) (a0 := (N, .inl (fun _ => 0))) hx hb (hts _ hw) rfl hK g2.P g2.dis g3 hA (fun _ => rfl) h0 h1 (by show N * 1 ≤ _; omega) (by omega) (by omega) hd (fun q cy H1 hK1 hP1 hD1 hS1 => ?_)
    obtain rfl := same .boolean 0 2 (cA 22) cy rfl (fun C h => by cases h) hK1
    refine xs_added (n := N) g1 g2 g4 g5 g6.tail (Or.inr (by decide)) ?_ hP1 hD1 hS1 (by omega) (by omega) k
    rw [xcell_arr (by decide), gN_nC, if_pos ⟨rfl, rfl⟩]
    have : gI (nC M 22 N) 22 (gA M 22) = fun _ => 0 := by funext j; rw [gI_nC, if_pos ⟨rfl, rfl⟩]
    show _ = Sum.inl (cA 22, N, Sum.inl (gI (nC M 22 N) 22 (gA M 22)))
    rw [this]
  · refine va_newa (atype := .char) (ty := .char) (a0 := (N, .inl (fun _ => 0))) hx hb (hts _ hw) rfl hK g2.P g2.dis g3 hA (fun _ => rfl) h0 h1 (by show N * 2 ≤ _; omega) (by omega) (by omega) hd (fun q cy H1 hK1 hP1 hD1 hS1 => ?_)
    obtain rfl := same .char 0 3 (cA 23) cy rfl (fun C h => by cases h) hK1
    refine xs_added (n := N) g1 g2 g4 g5 g6.tail (Or.inr (by decide)) ?_ hP1 hD1 hS1 (by omega) (by omega) k
    rw [xcell_arr (by decide), gN_nC, if_pos ⟨rfl, rfl⟩]
    have : gI (nC M 23 N) 23 (gA M 23) = fun _ => 0 := by funext j; rw [gI_nC, if_pos ⟨rfl, rfl⟩]
    show _ = Sum.inl (cA 23, N, Sum.inl (gI (nC M 23 N) 23 (gA M 23)))
    rw [this]
theorem xs_anew (X : xCtx p R s m args c D cA A0 sA nL cc own Ts mcT msT) {idx ci : Nat} {n : Int32} {N : Nat} (hci : ci = 1 ∨ ci = 2) (hd : decode cc pc = .ok (.anewarray idx, 3)) (hn : n = Int32.ofNat N) (hN : N ≤ 100000) (hw : ∃ (C : String) (T : u_T) (nf : Nat), vwCl[ci]? = some (C, T, nf) ∧ Cond.classLink own idx C ∈ Ts ∧ Cond.arrayOver (.object C) ∈ xNwL) (hbs : N ≤ bs)
    (k : xWx p l e R s m args below meth c D cA A0 sA M0 ad0 nL Z mcT msT (pc + 3) bc (bs - N) ls (.inr (.inr (xqof ci, some (gA M (xqof ci)))) :: st) (nC M (xqof ci) N)) : xWx p l e R s m args below meth c D cA A0 sA M0 ad0 nL Z mcT msT pc (bc + 1) bs ls (.inl n :: st) M := by
  obtain ⟨hx, hb, hml, ho, hts, hK, hA, hmc, hms, hfr, hlo⟩ := X
  intro ad H locs arr cells slots g1 g2 g3 g4 g5 g6 g7 g8
  have h0 : ¬ n < 0 := by rw [hn]; exact nI_pos (by omega)
  have h1 : n.toNatClampNeg = N := by rw [hn]; exact nI_clamp (by omega)
  have same : ∀ (C : String) (t0 : Nat) (cx cy : ClassId), (xtys cA)[t0]? = some (cx, .object C) → va_K D vwCl (xtys cA ++ [(cy, .object C)]) s → cy = cx := by
    intro C t0 cx cy h1 h3
    obtain ⟨_, _, -, -, -, e1⟩ := (hK.2 t0 _ h1).2
    obtain ⟨_, _, -, -, -, e2⟩ := (h3.2 (xtys cA).length _ (by rw [List.getElem?_append_right (Nat.le_refl _), Nat.sub_self]; rfl)).2
    exact Option.some.inj (e2.symm.trans e1)
  obtain ⟨C, T, nf, hc, w1, w2⟩ := hw
  refine va_newq hx hb ho (hts _ w1) (show va_AO C s from hlo.2.nw w2) hK g2.P g2.dis g3 hA h0 h1 (by omega) (by omega) (by omega) hd (fun q cy H1 hK1 hP1 hD1 hS1 => ?_)
  have fin : cy = cA (xqof ci) → xqof ci = 24 ∨ xqof ci = 25 → W p l e R s m args below meth c H1 locs (cells + 1) (slots + N) Z (F0 m (pc + 3) arr (.ref q :: st.map (xcv ad))) := by
    intro h9 h10
    refine xs_added (n := N) g1 g2 g4 g5 g6.tail (Or.inr (by omega)) ?_ hP1 hD1 hS1 (by omega) (by omega) k
    rw [xcell_arrR h10, gN_nC, if_pos ⟨rfl, rfl⟩, h9]
    have : (fun k => (gR (nC M (xqof ci) N) (xqof ci) (gA M (xqof ci)) k).map (xadd ad (xqof ci) (gA M (xqof ci)) q (xelt (xqof ci)))) = fun _ => none := by
      funext j; rw [gR_nC, if_pos ⟨rfl, rfl⟩]; rfl
    rw [this]
  rcases hci with rfl | rfl
  · cases hc
    exact fin (same _ 5 _ cy rfl hK1) (Or.inr rfl)
  · cases hc
    exact fin (same _ 4 _ cy rfl hK1) (Or.inl rfl)
theorem xs_ldc (X : xCtx p R s m args c D cA A0 sA nL cc own Ts mcT msT) {idx : Nat} {v : Int32} (hw : Cond.constant own idx v ∈ Ts) (hd : decode cc pc = .ok (.ldc idx, 2)) (k : xWx p l e R s m args below meth c D cA A0 sA M0 ad0 nL Z mcT msT (pc + 2) bc bs ls (.inl v :: st) M) : xWx p l e R s m args below meth c D cA A0 sA M0 ad0 nL Z mcT msT pc bc bs ls st M := by
  obtain ⟨hx, hb, hml, ho, hts, hK, hA, hmc, hms, hfr, hlo⟩ := X
  intro ad H locs arr cells slots g1 g2 g3 g4 g5 g6 g7 g8
  exact lv_ldc hx hb ho (hts _ hw) hd (k ad H locs arr cells slots g1 g2 g3 g4 g5 (g6.cons trivial) g7 g8)
theorem xs_ldcw (X : xCtx p R s m args c D cA A0 sA nL cc own Ts mcT msT) {idx : Nat} {v : Int32} (hw : Cond.constant own idx v ∈ Ts) (hd : decode cc pc = .ok (.ldc_w idx, 3)) (k : xWx p l e R s m args below meth c D cA A0 sA M0 ad0 nL Z mcT msT (pc + 3) bc bs ls (.inl v :: st) M) : xWx p l e R s m args below meth c D cA A0 sA M0 ad0 nL Z mcT msT pc bc bs ls st M := by
  obtain ⟨hx, hb, hml, ho, hts, hK, hA, hmc, hms, hfr, hlo⟩ := X
  intro ad H locs arr cells slots g1 g2 g3 g4 g5 g6 g7 g8
  exact lv_ldcw hx hb ho (hts _ hw) hd (k ad H locs arr cells slots g1 g2 g3 g4 g5 (g6.cons trivial) g7 g8)
theorem xs_ldc2 (X : xCtx p R s m args c D cA A0 sA nL cc own Ts mcT msT) {idx : Nat} {v : Int64} (hw : Cond.constantLong own idx v ∈ Ts) (hd : decode cc pc = .ok (.ldc2_w idx, 3)) (k : xWx p l e R s m args below meth c D cA A0 sA M0 ad0 nL Z mcT msT (pc + 3) bc bs ls (.inr (.inl v) :: st) M) : xWx p l e R s m args below meth c D cA A0 sA M0 ad0 nL Z mcT msT pc bc bs ls st M := by
  obtain ⟨hx, hb, hml, ho, hts, hK, hA, hmc, hms, hfr, hlo⟩ := X
  intro ad H locs arr cells slots g1 g2 g3 g4 g5 g6 g7 g8
  exact lv_ldc2 hx hb ho (hts _ hw) hd (k ad H locs arr cells slots g1 g2 g3 g4 g5 (g6.cons trivial) g7 g8)
/-- where a table's switch goes -/
def xswok (pc tgt : Nat) (sw : List (Int32 × Nat)) (d lo hi : Int) (offs : Array Int) : Bool :=
  decide ((pc : Int) + d = (tgt : Int)) && decide (-100 ≤ lo) && decide (hi ≤ 1000) && decide (hi - lo + 1 = (sw.length : Int)) && decide (offs.size = sw.length) &&
  (List.range sw.length).all (fun i => match sw[i]?, offs[i]? with | some (v, t), some o => v == Int32.ofInt (lo + (i : Int)) && decide ((pc : Int) + o = (t : Int)) | _, _ => false)
theorem xsw_run {ρ : Type} {r : ρ} {x : Int32} {d : Option ρ} {go : Nat → Option ρ} : ∀ (sw : List (Int32 × Nat)), xsw x d go sw = some r → (∃ (i t : Nat), sw[i]? = some (x, t) ∧ go t = some r) ∨ ((∀ q ∈ sw, q.1 ≠ x) ∧ d = some r)
  | [], h => Or.inr ⟨(fun q hq => by cases hq), h⟩
  | (v, t) :: sw, h => by
    unfold xsw at h
    split at h
    · rename_i e1
      exact Or.inl ⟨0, t, by rw [e1]; rfl, h⟩
    · rename_i hne
      rcases xsw_run sw h with ⟨i, t', h1, h2⟩ | ⟨h1, h2⟩
      · exact Or.inl ⟨i + 1, t', h1, h2⟩
      · refine Or.inr ⟨fun q hq => ?_, h2⟩
        rcases List.mem_cons.mp hq with rfl | hq
        · exact fun z => hne z.symm
        · exact h1 q hq
theorem xs_switch (X : xCtx p R s m args c D cA A0 sA nL cc own Ts mcT msT) {ρ : Type} {r : ρ} {x : Int32} {tgt len : Nat} {sw : List (Int32 × Nat)} {d lo hi : Int} {offs : Array Int} {dd : Option ρ} {go : Nat → Option ρ} (hd : decode cc pc = .ok (.tableswitch d lo hi offs, len)) (hs : xswok pc tgt sw d lo hi offs = true) (h : xsw x dd go sw = some r)
    (kd : dd = some r → xWx p l e R s m args below meth c D cA A0 sA M0 ad0 nL Z mcT msT tgt bc bs ls st M) (kk : ∀ t, go t = some r → xWx p l e R s m args below meth c D cA A0 sA M0 ad0 nL Z mcT msT t bc bs ls st M) : xWx p l e R s m args below meth c D cA A0 sA M0 ad0 nL Z mcT msT pc bc bs ls (.inl x :: st) M := by
  obtain ⟨hx, hb, hml, ho, hts, hK, hA, hmc, hms, hfr, hlo⟩ := X
  intro ad H locs arr cells slots g1 g2 g3 g4 g5 g6 g7 g8
  unfold xswok at hs
  simp only [Bool.and_eq_true, decide_eq_true_eq, List.all_eq_true, List.mem_range] at hs
  obtain ⟨⟨⟨⟨⟨s1, s2⟩, s3⟩, s4⟩, s5⟩, s6⟩ := hs
  have val : ∀ i : Nat, i < sw.length → ∃ (t : Nat) (o : Int), sw[i]? = some (Int32.ofInt (lo + (i : Int)), t) ∧ offs[i]? = some o ∧ (pc : Int) + o = (t : Int) := by
    intro i hi
    have := s6 i hi
    cases h1 : sw[i]? with
    | none => rw [h1] at this; cases this
    | some q =>
      obtain ⟨v, t⟩ := q
      cases h2 : offs[i]? with
      | none => rw [h1, h2] at this; cases this
      | some o =>
        rw [h1, h2] at this
        simp only [Bool.and_eq_true, beq_iff_eq, decide_eq_true_eq] at this
        exact ⟨t, o, by rw [this.1], rfl, this.2⟩
  have toI : ∀ i : Nat, i < sw.length → (Int32.ofInt (lo + (i : Int))).toInt = lo + (i : Int) := by
    intro i hi
    refine Int32.toInt_ofInt_of_le ?_ ?_ <;> omega
  rcases xsw_run sw h with ⟨i, t, h1, h2⟩ | ⟨h1, h2⟩
  · have hi : i < sw.length := (List.getElem?_eq_some_iff.mp h1).1
    obtain ⟨t', o, e1, e2, e3⟩ := val i hi
    rw [h1] at e1
    cases e1
    have e4 := toI i hi
    refine lv_tableIn hx hb hd (by rw [e4]; omega) (by rw [e4]; omega) (off := o) (by rw [e4, show (lo + (i : Int) - lo).toNat = i by omega]; exact e2) e3 ?_
    exact kk t h2 ad H locs arr cells slots g1 g2 g3 g4 g5 g6.tail g7 g8
  · refine lv_tableOut hx hb hd ?_ s1 (kd h2 ad H locs arr cells slots g1 g2 g3 g4 g5 g6.tail g7 g8)
    refine Classical.byContradiction (fun hc => ?_)
    have hi : (x.toInt - lo).toNat < sw.length := by omega
    obtain ⟨t', o, e1, -, -⟩ := val _ hi
    refine h1 _ (List.mem_of_getElem? e1) ?_
    refine Int32.toInt_inj.mp ?_
    show (Int32.ofInt (lo + (((x.toInt - lo).toNat : Nat) : Int))).toInt = x.toInt
    rw [toI _ hi]
    omega
end XNEW
