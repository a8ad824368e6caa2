/-! ===== fields and arrays ===== -/
/-- what the tables must say of all kinds -/
def xcls (Ts : List Cond) : Prop := ∀ (ci : Nat) (C : String) (T : u_T) (N : Nat), vwCl[ci]? = some (C, T, N) → (∀ w ∈ u_ws C T N, w ∈ Ts) ∧ (∀ a, a < N → ∀ b, b < N → a ≠ b → (T a).2.1 ≠ (T b).2.1) ∧ ∃ ty0 : Nat → FieldType, (∀ k, k < N → parseFieldDescriptor (T k).2.2.1 = some (ty0 k)) ∧ ∀ k, k < N → (∀ n, xft ci k = n + 4 → refKind (ty0 k) = true) ∧ (xft ci k = 0 → ty0 k = .int) ∧ (xft ci k = 1 → ty0 k = .long) ∧ (xft ci k = 2 → ty0 k = .boolean) ∧ (xft ci k = 3 → ty0 k = .char) ∧ xft ci k < 34
/-- a pool's number is a field -/
def xfl (Ts : List Cond) (own : String) (idx ci k t : Nat) : Prop := ∃ (C : String) (T : u_T) (N : Nat), vwCl[ci]? = some (C, T, N) ∧ ci < 13 ∧ k < N ∧ t = xft ci k ∧ ((Cond.fieldLink own idx (T k).1 (T k).2.1 (T k).2.2.1 ∈ Ts) ∨ ∃ host, Cond.fieldLinkNest own idx (T k).1 (T k).2.1 (T k).2.2.1 host ∈ xNwL)
theorem xnf_of {ci : Nat} {C : String} {T : u_T} {N : Nat} (h : vwCl[ci]? = some (C, T, N)) : xnf ci = N := by unfold xnf; rw [h]
theorem xcell_obj {cA : Nat → ClassId} {ad : Nat → Nat → Nat} {M : xM} {c s : Nat} (h : c < 13) : xcell cA ad M c s = .inr (c, (List.range (xnf c)).map (fun k => xcv ad (xget M c s k (xft c k)))) := by unfold xcell; rw [if_pos h]
section XMEM
variable {p : Program} {l : Launch} {e : Env} {R : Room} {s : State} {m : MethodId} {args : Array Value} {below : List Frame} {meth : Method} {c : Code} {D : va_G} {cA : Nat → ClassId} {A0 : Nat → Prop} {sA : Nat → Nat} {M0 : xM} {ad0 : Nat → Nat → Nat} {nL : Nat} {cc : ByteArray} {own : String} {Ts : List Cond} {Z : State → Prop} {mcT msT : Nat}
variable {pc bc bs : Nat} {ls : xLs} {st : List xV} {M : xM}
theorem xP1 {ad : Nat → Nat → Nat} {H : Heap} {cx sx : Nat} (hW : xWd D cA ad A0 M H) (h : sx < gA M cx) : va_P D vwCl [(ad cx sx, xcell cA ad M cx sx)] H := by
  intro k q hk
  cases k with
  | zero => cases hk; exact (hW.1 cx sx h).2.1
  | succ k => simp at hk
theorem vok_ref {cx a : Nat} (h : vok M (.inr (.inr (cx, some a)))) (hc : cx < 30) : a < gA M cx := by
  rcases h with h | h
  · exact h
  · omega
theorem vok_get {ad : Nat → Nat → Nat} {H : Heap} {cx a k t : Nat} (hW : xWd D cA ad A0 M H) (h : a < gA M cx) (ht : ∀ n, t = n + 4 → xrt cx k = n) : vok M (xget M cx a k t) := by
  unfold xget
  match t with
  | 0 => trivial
  | 1 => trivial
  | 2 => trivial
  | 3 => trivial
  | n + 4 =>
    show vok M (.inr (.inr (n, gR M cx a k)))
    cases hr : gR M cx a k with
    | none => trivial
    | some s' =>
      left
      have := hW.2.2.1 cx a k s' h hr
      rw [ht n rfl] at this
      exact this
theorem xs_get (X : xCtx p R s m args c D cA A0 sA nL cc own Ts mcT msT) (hC : xcls Ts) {idx ci k t a : Nat} (hd : decode cc pc = .ok (.getfield idx, 3)) (hf : xfl Ts own idx ci k t) (kk : xWx p l e R s m args below meth c D cA A0 sA M0 ad0 nL Z mcT msT (pc + 3) bc bs ls (xget M ci a k t :: st) M) : xWx p l e R s m args below meth c D cA A0 sA M0 ad0 nL Z mcT msT pc bc bs ls (.inr (.inr (ci, some a)) :: st) M := by
  obtain ⟨hx, hb, hml, ho, hts, hK, hA, hmc, hms, hfr, hlo⟩ := X
  intro ad H locs arr cells slots g1 g2 g3 g4 g5 g6 g7 g8
  obtain ⟨C, T, N, hc, hci, hk, rfl, hl⟩ := hf
  have ha := vok_ref g6.head (by omega)
  obtain ⟨hin, -, -⟩ := hC ci C T N hc
  have hP := xP1 g2 ha
  rw [xcell_obj hci] at hP
  have hv : ((List.range (xnf ci)).map (fun k => xcv ad (xget M ci a k (xft ci k))))[k]? = some (xcv ad (xget M ci a k (xft ci k))) := by
    rw [List.getElem?_map, List.getElem?_range (by rw [xnf_of hc]; exact hk)]; rfl
  have h9 := kk ad H locs arr cells slots g1 g2 g3 g4 g5 (g6.tail.cons (vok_get g2 ha (fun n hn => by unfold xrt; rw [if_pos hci, hn]; rfl))) g7 g8
  rcases hl with hl | ⟨host, hl⟩
  · exact va_get hx hb hts hin ho hK hP 0 rfl hc k hk (hts _ hl) (fun _ z => z) hv hd h9
  · exact va_getN hx hb hts hin ho hK hP 0 rfl hc k hk (va_Nw.use rfl (hlo.2.nw hl)) (fun _ z => z) hv hd h9
theorem narrow_bool {x : Int32} (h : xbool x = true) : narrow .boolean (.int x) = .int x := by
  unfold xbool at h
  simp only [Bool.or_eq_true, beq_iff_eq] at h
  rcases h with rfl | rfl <;> rfl
theorem narrow_char {x : Int32} (h : xchar x = true) : narrow .char (.int x) = .int x ∧ fits .char (.int x) = true := by
  unfold xchar at h
  simp only [decide_eq_true_eq] at h
  obtain ⟨n, hn, rfl⟩ := nI_of (x := x) (by rw [Int32.lt_iff_toInt_lt, Int32.toInt_zero]; omega)
  rw [nI_toInt hn] at h
  exact pk_charN (by omega)

/-- what may be put: the new value of one place -/
theorem xs_putG (X : xCtx p R s m args c D cA A0 sA nL cc own Ts mcT msT) (hC : xcls Ts) {idx ci k t a : Nat} {v : xV} {M' : xM} (hd : decode cc pc = .ok (.putfield idx, 3)) (hf : xfl Ts own idx ci k t) (hfin : ∀ (C : String) (T : u_T) (N : Nat), vwCl[ci]? = some (C, T, N) → (T k).2.2.2 = false ∨ ((T k).2.2.2 = true ∧ meth.name = "<init>" ∧ (T k).1 = own))
    (hnest : ∀ (C : String) (T : u_T) (N : Nat), vwCl[ci]? = some (C, T, N) → Cond.fieldLink own idx (T k).1 (T k).2.1 (T k).2.2.1 ∈ Ts)
    (hval : ∀ (ad : Nat → Nat → Nat) (ty : FieldType), vok M v → (∀ n, xft ci k = n + 4 → refKind ty = true) → (xft ci k = 0 → ty = .int) → (xft ci k = 1 → ty = .long) → (xft ci k = 2 → ty = .boolean) → (xft ci k = 3 → ty = .char) → narrow ty (xcv ad v) = xcv ad v ∧ fits ty (xcv ad v) = true)
    (hAM : ∀ c, gA M' c = gA M c) (hNM : ∀ c s, gN M' c s = gN M c s) (hI : ∀ c s k', ¬ (c = ci ∧ s = a ∧ k' = k) → gI M' c s k' = gI M c s k') (hL : ∀ c s k', ¬ (c = ci ∧ s = a ∧ k' = k) → gL M' c s k' = gL M c s k') (hR : ∀ c s k', ¬ (c = ci ∧ s = a ∧ k' = k) → gR M' c s k' = gR M c s k')
    (hget : xget M' ci a k t = v) (hcl : ∀ s', gR M' ci a k = some s' → gR M ci a k = some s' ∨ (vok M v → s' < gA M (xrt ci k))) (hci13 : ci < 13)
    (kk : xWx p l e R s m args below meth c D cA A0 sA M0 ad0 nL Z mcT msT (pc + 3) bc bs ls st M') : xWx p l e R s m args below meth c D cA A0 sA M0 ad0 nL Z mcT msT pc bc bs ls (v :: .inr (.inr (ci, some a)) :: st) M := by
  obtain ⟨hx, hb, hml, ho, hts, hK, hA, hmc, hms, hfr, hlo⟩ := X
  intro ad H locs arr cells slots g1 g2 g3 g4 g5 g6 g7 g8
  obtain ⟨C, T, N, hc, hci, hk, rfl, -⟩ := hf
  have ha := vok_ref g6.tail.head (by omega)
  obtain ⟨hin, hnm, ty0, hty, htyk⟩ := hC ci C T N hc
  obtain ⟨hv1, hv2⟩ := hval ad (ty0 k) g6.head (htyk k hk).1 (htyk k hk).2.1 (htyk k hk).2.2.1 (htyk k hk).2.2.2.1 (htyk k hk).2.2.2.2.1
  obtain ⟨q0, hq, hq2⟩ := g2.pos ha
  have hP := g2.P
  have hD := g2.dis
  have hq3 := hq2
  rw [xcell_obj hci] at hq3
  have vmono : ∀ w, vok M w → vok M' w := by
    intro w hw
    rcases w with x | x | ⟨cx, o⟩
    · trivial
    · trivial
    · cases o with
      | none => trivial
      | some sx =>
        rcases hw with hw | hw
        · left; rw [hAM]; exact hw
        · exact Or.inr hw
  have key : ∀ (H1 : Heap) (locs1 : List Loc), va_P D vwCl ((xws cA ad M).set q0 (ad ci a, .inr (ci, ((List.range (xnf ci)).map (fun k => xcv ad (xget M ci a k (xft ci k)))).set k (xcv ad v)))) H1 → va_D A0 ((xws cA ad M).set q0 (ad ci a, .inr (ci, ((List.range (xnf ci)).map (fun k => xcv ad (xget M ci a k (xft ci k)))).set k (xcv ad v)))) → va_S A0 s.heap H1 locs1 → W p l e R s m args below meth c H1 locs1 cells slots Z (F0 m (pc + 3) arr (st.map (xcv ad))) := by
    intro H1 locs1 hP1 hD1 hS1
    refine kk ad H1 locs1 arr cells slots ⟨g1.1, fun cx sx h => by rw [hAM]; exact g1.2 cx sx h⟩ (g2.set ha hq ?_ hP1 ?_ hAM ?_ ?_) hS1 g4 (fun q hq => vmono _ (g5 q hq)) (fun w hw => vmono w (g6.tail.tail w hw)) g7 g8
    · rw [xcell_obj hci]
      congr 2
      refine List.ext_getElem? (fun j => ?_)
      by_cases hj : j = k
      · subst hj
        rw [List.getElem?_set_self (by rw [List.length_map, List.length_range, xnf_of hc]; exact hk), List.getElem?_map, List.getElem?_range (by rw [xnf_of hc]; exact hk)]
        show some (xcv ad v) = some (xcv ad (xget M' ci a j (xft ci j)))
        rw [hget]
      · rw [List.getElem?_set_ne (Ne.symm hj), List.getElem?_map, List.getElem?_map]
        cases hj3 : (List.range (xnf ci))[j]? with
        | none => rfl
        | some x =>
          obtain ⟨h1, h2⟩ := List.getElem?_eq_some_iff.mp hj3
          rw [List.getElem_range] at h2
          subst h2
          show some (xcv ad (xget M ci a j (xft ci j))) = some (xcv ad (xget M' ci a j (xft ci j)))
          rw [xget_congr (hI _ _ _ (fun z => hj z.2.2)) (hL _ _ _ (fun z => hj z.2.2)) (hR _ _ _ (fun z => hj z.2.2)) (fun _ _ _ _ => rfl)]
    · intro cx sx hsx hne
      refine xcell_congr ?_ ?_ ?_ (hNM _ _) (fun _ _ _ => rfl)
      · funext j; exact hI _ _ _ (fun z => hne ⟨z.1, z.2.1⟩)
      · funext j; exact hL _ _ _ (fun z => hne ⟨z.1, z.2.1⟩)
      · funext j; exact hR _ _ _ (fun z => hne ⟨z.1, z.2.1⟩)
    · intro cx sx kx s' hsx hr
      by_cases hz : cx = ci ∧ sx = a ∧ kx = k
      · obtain ⟨rfl, rfl, rfl⟩ := hz
        rcases hcl s' hr with h0 | h0
        · exact g2.2.2.1 _ _ _ _ hsx h0
        · exact h0 g6.head
      · rw [hR _ _ _ hz] at hr
        exact g2.2.2.1 cx sx kx s' hsx hr
    · intro sx kx hsx
      rw [hI _ _ _ (fun z => by omega)]
      exact g2.2.2.2 sx kx hsx
  have hlen : k < ((List.range (xnf ci)).map (fun k => xcv ad (xget M ci a k (xft ci k)))).length := by rw [List.length_map, List.length_range, xnf_of hc]; exact hk
  rcases hfin C T N hc with hf | ⟨hf, hm, hdecl⟩
  · exact va_put hx hb hts hin ty0 hty hnm ho hK hP hD g3 q0 hq3 hc k hk (hts _ (hnest C T N hc)) (fun _ z => z) hf (hty k hk) hv1 hv2 hlen hd key
  · exact va_putF hx hb hts hin ty0 hty hnm ho hK hP hD g3 q0 hq3 hc k hk (hts _ (hnest C T N hc)) (fun _ z => z) hf hm hdecl (hty k hk) hv1 hv2 hlen hd key

theorem gI_sI_x {M : xM} {c s k c' s' k' : Nat} {v : Int32} : gI (sI M c s k v) c' s' k' = if c' = c ∧ s' = s ∧ k' = k then v else gI M c' s' k' := rfl
theorem gL_sL_x {M : xM} {c s k c' s' k' : Nat} {v : Int64} : gL (sL M c s k v) c' s' k' = if c' = c ∧ s' = s ∧ k' = k then v else gL M c' s' k' := rfl
theorem gR_sR_x {M : xM} {c s k c' s' k' : Nat} {v : Option Nat} : gR (sR M c s k v) c' s' k' = if c' = c ∧ s' = s ∧ k' = k then v else gR M c' s' k' := rfl
theorem xcell_arr {cA : Nat → ClassId} {ad : Nat → Nat → Nat} {M : xM} {c s : Nat} (h : c = 20 ∨ c = 22 ∨ c = 23) : xcell cA ad M c s = .inl (cA c, gN M c s, .inl (gI M c s)) := by
  unfold xcell
  rw [if_neg (by omega), if_neg (by omega), if_neg (by omega)]
theorem xcell_arrL {cA : Nat → ClassId} {ad : Nat → Nat → Nat} {M : xM} {s : Nat} : xcell cA ad M 21 s = .inl (cA 21, gN M 21 s, .inr (.inl (gL M 21 s))) := rfl
theorem xcell_arrR {cA : Nat → ClassId} {ad : Nat → Nat → Nat} {M : xM} {c s : Nat} (h : c = 24 ∨ c = 25) : xcell cA ad M c s = .inl (cA c, gN M c s, .inr (.inr (.inr (.inr (fun k => (gR M c s k).map (ad (xelt c))))))) := by
  unfold xcell
  rw [if_neg (by omega), if_neg (by omega), if_pos h]
theorem xs_put (X : xCtx p R s m args c D cA A0 sA nL cc own Ts mcT msT) (hC : xcls Ts) {ρ : Type} {r : ρ} {go : xM → Option ρ} {idx ci k t a : Nat} {v : xV} (hd : decode cc pc = .ok (.putfield idx, 3)) (hf : xfl Ts own idx ci k t) (hfin : ∀ (C : String) (T : u_T) (N : Nat), vwCl[ci]? = some (C, T, N) → (T k).2.2.2 = false ∨ ((T k).2.2.2 = true ∧ meth.name = "<init>" ∧ (T k).1 = own))
    (hnest : ∀ (C : String) (T : u_T) (N : Nat), vwCl[ci]? = some (C, T, N) → Cond.fieldLink own idx (T k).1 (T k).2.1 (T k).2.2.1 ∈ Ts)
    (h : xput M ci a k t v go = some r) (kk : ∀ M', go M' = some r → xWx p l e R s m args below meth c D cA A0 sA M0 ad0 nL Z mcT msT (pc + 3) bc bs ls st M') : xWx p l e R s m args below meth c D cA A0 sA M0 ad0 nL Z mcT msT pc bc bs ls (v :: .inr (.inr (ci, some a)) :: st) M := by
  have hf2 := hf
  obtain ⟨C, T, N, hc, hci, hk, ht, -⟩ := hf
  unfold xput at h
  match t, v, h with
  | 0, .inl x, h =>
    refine xs_putG X hC (M' := sI M ci a k x) hd hf2 hfin hnest (fun ad ty _ _ h0 _ _ _ => by rw [h0 ht.symm]; exact ⟨rfl, rfl⟩) (fun _ => rfl) (fun _ _ => rfl) (fun c s k' z => by rw [gI_sI_x, if_neg z]) (fun _ _ _ _ => rfl) (fun _ _ _ _ => rfl) ?_ ?_ hci (kk _ h)
    · show (Sum.inl (gI (sI M ci a k x) ci a k) : xV) = .inl x
      rw [gI_sI_x, if_pos ⟨rfl, rfl, rfl⟩]
    · exact fun s' hr => Or.inl hr
  | 1, .inr (.inl x), h =>
    refine xs_putG X hC (M' := sL M ci a k x) hd hf2 hfin hnest (fun ad ty _ _ _ h0 _ _ => by rw [h0 ht.symm]; exact ⟨rfl, rfl⟩) (fun _ => rfl) (fun _ _ => rfl) (fun _ _ _ _ => rfl) (fun c s k' z => by rw [gL_sL_x, if_neg z]) (fun _ _ _ _ => rfl) ?_ ?_ hci (kk _ h)
    · show (Sum.inr (Sum.inl (gL (sL M ci a k x) ci a k)) : xV) = .inr (.inl x)
      rw [gL_sL_x, if_pos ⟨rfl, rfl, rfl⟩]
    · exact fun s' hr => Or.inl hr
  | 2, .inl x, h =>
    obtain ⟨hb, h⟩ := gd_some h
    refine xs_putG X hC (M' := sI M ci a k x) hd hf2 hfin hnest (fun ad ty _ _ _ _ h0 _ => by rw [h0 ht.symm]; exact ⟨narrow_bool hb, hb⟩) (fun _ => rfl) (fun _ _ => rfl) (fun c s k' z => by rw [gI_sI_x, if_neg z]) (fun _ _ _ _ => rfl) (fun _ _ _ _ => rfl) ?_ ?_ hci (kk _ h)
    · show (Sum.inl (gI (sI M ci a k x) ci a k) : xV) = .inl x
      rw [gI_sI_x, if_pos ⟨rfl, rfl, rfl⟩]
    · exact fun s' hr => Or.inl hr
  | 3, .inl x, h =>
    obtain ⟨hb, h⟩ := gd_some h
    refine xs_putG X hC (M' := sI M ci a k x) hd hf2 hfin hnest (fun ad ty _ _ _ _ _ h0 => by rw [h0 ht.symm]; exact narrow_char hb) (fun _ => rfl) (fun _ _ => rfl) (fun c s k' z => by rw [gI_sI_x, if_neg z]) (fun _ _ _ _ => rfl) (fun _ _ _ _ => rfl) ?_ ?_ hci (kk _ h)
    · show (Sum.inl (gI (sI M ci a k x) ci a k) : xV) = .inl x
      rw [gI_sI_x, if_pos ⟨rfl, rfl, rfl⟩]
    · exact fun s' hr => Or.inl hr
  | n + 4, .inr (.inr (c', o)), h =>
    simp only at h
    cases hb : Nat.beq c' n with
    | false => rw [hb] at h; cases h
    | true =>
      rw [hb] at h
      have e1 := Nat.eq_of_beq_eq_true hb
      subst e1
      refine xs_putG X hC (M' := sR M ci a k o) hd hf2 hfin hnest (fun ad ty _ h0 _ _ _ _ => ?_) (fun _ => rfl) (fun _ _ => rfl) (fun _ _ _ _ => rfl) (fun _ _ _ _ => rfl) (fun c s k' z => by rw [gR_sR_x, if_neg z]) ?_ ?_ hci (kk _ h)
      · have := h0 c' ht.symm
        cases o with
        | none => cases ty <;> first | exact ⟨rfl, rfl⟩ | exact absurd this (by decide)
        | some b => cases ty <;> first | exact ⟨rfl, rfl⟩ | exact absurd this (by decide)
      · show (Sum.inr (Sum.inr (c', gR (sR M ci a k o) ci a k)) : xV) = _
        rw [gR_sR_x, if_pos ⟨rfl, rfl, rfl⟩]
      · intro s' hr
        refine Or.inr (fun hv => ?_)
        rw [gR_sR_x, if_pos ⟨rfl, rfl, rfl⟩] at hr
        subst hr
        have hx : xrt ci k = c' := by unfold xrt; rw [if_pos hci, ← ht]; rfl
        rw [hx]
        rcases hv with hv | hv
        · exact hv
        · have := (hC ci C T N hc).2.2.choose_spec.2 k hk |>.2.2.2.2.2
          omega
end XMEM
