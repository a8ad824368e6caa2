/-! ===== the law, from its entry ===== -/
/-- the places of the texts, of their bytes, of the script, of the library's static -/
def whS (aK aV : Nat → Nat) (b z t : Nat) : Nat → Nat := fun q => if q < 3 then aK q else if q < 10 then b else if q < 20 then aV (q - 10) else if q = 20 then z else t
theorem whS_K {aK aV : Nat → Nat} {b z t i : Nat} (h : i < 3) : whS aK aV b z t i = aK i := if_pos h
theorem whS_V {aK aV : Nat → Nat} {b z t i : Nat} (h : i < 3) : whS aK aV b z t (10 + i) = aV i := by
  unfold whS
  rw [if_neg (show ¬ 10 + i < 3 by omega), if_neg (show ¬ 10 + i < 10 by omega), if_pos (show 10 + i < 20 by omega)]
  exact congrArg aV (Nat.add_sub_cancel_left 10 i)
theorem whS_S {aK aV : Nat → Nat} {b z t : Nat} {A : Nat → Prop} {U : State} {H : Heap} (h : vk_S 3 whL xbyts aK aV A U H) : vk_S 3 whL xbyts (whS aK aV b z t) (fun i => whS aK aV b z t (10 + i)) A U H := by
  refine ⟨fun i hi => ?_, fun i j hi hj e => ?_⟩
  · have h1 := h.1 i hi
    show va_O "java/lang/String" (whS aK aV b z t i) A U H ∧ va_OF "java/lang/String" "coder" "B" (.int 0) (whS aK aV b z t i) A U H ∧ va_OF "java/lang/String" "value" "[B" (.ref (whS aK aV b z t (10 + i))) (whS aK aV b z t i) A U H ∧ va_T .byte (whS aK aV b z t (10 + i)) (whL.getD i 0) (fun j => .int ((xbyts.getD i []).getD j 0)) A U H
    rw [whS_K hi, whS_V hi]
    exact h1
  · rw [whS_K hi, whS_K hj] at e
    exact h.2 i j hi hj e
theorem wh_inst : ∀ k, k < 13 → ((vwCl[k]?).map fun q => decide (Cond.instantiable q.1 q.2.2 ∈ lw_tbl)) = some true := by decide +kernel
theorem wh_inst' {k : Nat} {q : vw_C} (h : vwCl[k]? = some q) : Cond.instantiable q.1 q.2.2 ∈ lw_tbl := by
  have hk : k < 13 := (List.getElem?_eq_some_iff.mp h).1
  have h1 := wh_inst k hk
  rw [h] at h1
  exact of_decide_eq_true (Option.some.inj h1)
theorem wh_arr {s : State} {ag : Array Value} {t : FieldType} (h : (Cond.arrayClass t).before ag s = true) : ∃ c : ClassId, ArrOfT s c t ∧ s.vm.findClass ("[" ++ t.toString) = some c := by
  obtain ⟨c, k, comp, h1, h2, h3⟩ := Cond.arrayClass_spec h
  exact ⟨c, fun n z => ⟨(fun k hk => by cases hk), k, h2, comp, h3⟩, h1⟩
theorem wh_arrR {s : State} {ag : Array Value} {C : String} (h : (Cond.arrayOver (.object C)).before ag s = true) : ∃ c : ClassId, ArrOfT s c (.object C) ∧ va_RA s c (.object C) := by
  obtain ⟨comp, c, k, h1, -, h2, h3, h4⟩ := Cond.arrayOver_spec h
  exact ⟨c, fun n z => ⟨(fun k hk => by cases hk), k, h2, comp, h3⟩, k, comp, h2, h3, h1, h4⟩
def whA (c0 c1 c2 c3 c4 c5 : ClassId) : Nat → ClassId := fun q => if q = 20 then c0 else if q = 21 then c1 else if q = 22 then c2 else if q = 23 then c3 else if q = 24 then c4 else c5
theorem wh_nw : ∀ i, i < 12 → ((xNwL[i]?).map fun w => decide (w ∈ lw_tbl)) = some true := by decide +kernel
theorem wh_nl : (lvNw.all fun w => decide (w ∈ lw_tbl)) = true := by decide +kernel
theorem wh_xn {s : State} {ag : Array Value} (hts : ∀ w ∈ lw_tbl, w.before ag s = true) : ∀ w ∈ xNwL, va_Nw w s := by
  intro w hw
  have hin : w ∈ lw_tbl := by
    obtain ⟨i, hi⟩ := List.getElem?_of_mem hw
    have h1 := wh_nw i (List.getElem?_eq_some_iff.mp hi).1
    rw [hi] at h1
    exact of_decide_eq_true (Option.some.inj h1)
  have hb := hts w hin
  simp only [xNwL, List.mem_cons, List.not_mem_nil, or_false] at hw
  rcases hw with rfl | rfl | rfl | rfl | rfl | rfl | rfl | rfl | rfl | rfl | rfl | rfl <;> first | exact va_Nw.of rfl hb | exact hb
theorem wh_ln {s : State} {ag : Array Value} (hts : ∀ w ∈ lw_tbl, w.before ag s = true) : ∀ w ∈ lvNw, va_Nw w s := fun w hw => va_Nw.of (lvNw_t w hw) (hts w (of_decide_eq_true (List.all_eq_true.mp wh_nl w hw)))
set_option maxHeartbeats 4000000 in
/-- from the entry, for every script of at most 3584 ints, the law comes to its end with true -/
theorem whole_start {p : Program} {e : Env} {s : State} {m : MethodId} {below : List Frame} {meth : Method} {c : Code} (l : Launch) (hflags : l.flags = flags0) {b L : Nat} {xs : Nat → Int32} (hL : L ≤ 3584) (C0 : lw_At p s m meth c b L xs) : W p l e room_1 s m #[Value.ref b] below meth c s.heap [] 0 0 (lw_Z below #[Value.ref b] s) (entryFrame m ([Value.ref b] : List Value).toArray 7) := by
  obtain ⟨hx, hb, hr, hml, hown, hts, hX, hbl, hlocks, hgv⟩ := C0
  have hs := flat_of_before _ hgv
  obtain ⟨A0, hA0⟩ : ∃ A0 : Nat → Prop, A0 = fun q => s.heap.size ≤ q := ⟨_, rfl⟩
  have hA : ∀ q : Nat, s.heap.size ≤ q → A0 q := fun q h => by rw [hA0]; exact h
  have hA2 : ∀ q : Nat, A0 q → s.heap.size ≤ q := fun q h => by rw [hA0] at h; exact h
  have hAn : ∀ a : Nat, a < s.heap.size → ¬ A0 a := fun a h h2 => Nat.not_le.mpr h (hA2 a h2)
  -- the classes
  obtain ⟨D, hKn⟩ : ∃ D : va_G, ∀ (k : Nat) (q : vw_C), vwCl[k]? = some q → u_Kn s q.1 q.2.1 q.2.2 (D.1 k) (D.2 k) := by
    have h0 : ∀ k : Nat, ∃ z : ClassId × (Nat → Nat), ∀ q, vwCl[k]? = some q → u_Kn s q.1 q.2.1 q.2.2 z.1 z.2 := by
      intro k
      cases hq : vwCl[k]? with
      | none => exact ⟨(0, fun _ => 0), fun q h => nomatch h⟩
      | some q =>
        obtain ⟨cc, ii, h⟩ := u_known (ws := lw_tbl) (C := q.1) (T := q.2.1) (N := q.2.2) (n := q.2.2) hts (fun w hw => (List.mem_filter.mp ((xclsG k q.1 q.2.1 q.2.2 hq).1 w hw)).1) (hts _ (wh_inst' hq))
        exact ⟨(cc, ii), fun q' h' => by cases h'; exact h⟩
    obtain ⟨f, hf⟩ := Classical.axiomOfChoice h0
    exact ⟨(fun k => (f k).1, fun k => (f k).2), hf⟩
  -- the arrays' classes
  obtain ⟨c0, a0, f0⟩ := wh_arr (hts (.arrayClass .int) (by decide +kernel))
  obtain ⟨c1, a1, f1⟩ := wh_arr (hts (.arrayClass .long) (by decide +kernel))
  obtain ⟨c2, a2, f2⟩ := wh_arr (hts (.arrayClass .boolean) (by decide +kernel))
  obtain ⟨c3, a3, f3⟩ := wh_arr (hts (.arrayClass .char) (by decide +kernel))
  obtain ⟨c4, a4, f4⟩ := wh_arrR (hts (.arrayOver (.object "FlashNodes$Disk")) (by decide +kernel))
  obtain ⟨c5, a5, f5⟩ := wh_arrR (hts (.arrayOver (.object "FlashNodes$Clues")) (by decide +kernel))
  have hK : va_K D vwCl (xtys (whA c0 c1 c2 c3 c4 c5)) s := by
    refine ⟨hKn, fun k q hq => ?_⟩
    match k, hq with
    | 0, hq => cases hq; exact ⟨a0, f0⟩
    | 1, hq => cases hq; exact ⟨a1, f1⟩
    | 2, hq => cases hq; exact ⟨a2, f2⟩
    | 3, hq => cases hq; exact ⟨a3, f3⟩
    | 4, hq => cases hq; exact ⟨a4, f4⟩
    | 5, hq => cases hq; exact ⟨a5, f5⟩
    | k + 6, hq => cases hq
  -- the texts
  obtain ⟨aK, aV, hT, hE⟩ := vk_Sof (N := 3) (tm := whT) (len := whL) (byt := xbyts) (A := A0) wh_len (fun i hi => hs _ (wh_ex i hi)) (fun i hi => hs _ (wh_co i hi)) (fun i hi => hs _ (wh_ar i hi)) (fun i hi => hs _ (wh_le i hi)) (fun i hi j hj => hs _ (wh_el i hi j hj)) (fun i j hi hj hij => (wh_ne i hi j hj hij).elim (fun h => Or.inl (hs _ h)) (fun h => Or.inr (hs _ h))) hAn
  have hCS : va_Z "java/lang/String" "COMPACT_STRINGS" "Z" (.int 1) A0 s s.heap := va_Zof (hts (.laysStatic "java/lang/String" "COMPACT_STRINGS" "Z") (by decide +kernel)) (hts (.initialized "java/lang/String") (by decide +kernel)) (va_eqi (hs (.eq (.static "java/lang/String" "COMPACT_STRINGS" "Z") (.int 1)) (by decide +kernel))) hAn
  have hPQ : va_Zq "jdk/internal/util/Preconditions" "SIOOBE_FORMATTER" "Ljava/util/function/BiFunction;" A0 s s.heap := va_Zqof (hts (.laysStatic "jdk/internal/util/Preconditions" "SIOOBE_FORMATTER" "Ljava/util/function/BiFunction;") (by decide +kernel)) (hts (.initialized "jdk/internal/util/Preconditions") (by decide +kernel)) (hs (.isRef (.static "jdk/internal/util/Preconditions" "SIOOBE_FORMATTER" "Ljava/util/function/BiFunction;")) (by decide +kernel)) hAn
  have hR0 : vk_R "FlashNodes$Tape" 59 xT0 (aK 0) s := vk_R.of (hts (.stringRef "FlashNodes$Tape" 59 xT0) (by decide +kernel)) (hE 0 (by omega))
  have hR1 : vk_R "FlashNodes$Tape" 77 xT1 (aK 1) s := vk_R.of (hts (.stringRef "FlashNodes$Tape" 77 xT1) (by decide +kernel)) (hE 1 (by omega))
  have hR2 : vk_R "FlashNodes" 310 xT2 (aK 2) s := vk_R.of (hts (.stringRef "FlashNodes" 310 xT2) (by decide +kernel)) (hE 2 (by omega))
  obtain ⟨z, t, hZ⟩ : ∃ z t : Nat, va_Z "jdk/internal/util/Preconditions" "SIOOBE_FORMATTER" "Ljava/util/function/BiFunction;" (match z with | 0 => .null | _ => .ref t) A0 s s.heap := by
    rcases hPQ with h | ⟨t, h⟩
    · exact ⟨0, 0, h⟩
    · exact ⟨1, t, h⟩
  have hStr : xStr (whS aK aV b z t) A0 s s.heap := ⟨whS_S hT, hR0, hR1, hR2, hCS, hZ, wh_xn hts⟩
  have hThr : xThr A0 s s.heap := ⟨vx_Zqof (hts (.laysStatic Bundle.tN "UNASSIGNED_STACK" Bundle.steD) (by decide +kernel)) (hts (.initialized Bundle.tN) (by decide +kernel)) (hs (.isRef (.static Bundle.tN "UNASSIGNED_STACK" Bundle.steD)) (by decide +kernel)) hAn,
    vx_Zqof (hts (.laysStatic Bundle.tN "SUPPRESSED_SENTINEL" Bundle.listD) (by decide +kernel)) (hts (.initialized Bundle.tN) (by decide +kernel)) (hs (.isRef (.static Bundle.tN "SUPPRESSED_SENTINEL" Bundle.listD)) (by decide +kernel)) hAn, wh_ln hts⟩
  have hst : l.stackTraces = false := by
    unfold Launch.stackTraces
    rw [hflags]
    decide +kernel
  have hctx : xCtx p room_1 s m #[Value.ref b] c D (whA c0 c1 c2 c3 c4 c5) A0 (whS aK aV b z t) 7 cL_law RL lw_tbl 601024 7293034 :=
    ⟨hx, hb, hml, hown, hts, hK, hA, Nat.le_refl _, Nat.le_refl _, Nat.le_of_ble_eq_true rfl, Nat.le_of_ble_eq_true rfl, hStr⟩
  obtain ⟨M', hlaw⟩ := law_true (scr := xs) hL
  have hwalk := wx_L_law (p := p) (l := l) (e := e) (below := below) (meth := meth) (c0 := c) (Z := lw_Z below #[Value.ref b] s) (M0 := M0x) (ad0 := fun cx q => if cx = 30 then whS aK aV b z t q else 0) (b := b) (L := L) (scr := xs) hctx ⟨hX, hbl, hAn b hbl, rfl⟩ hThr hst ⟨Nat.le_of_ble_eq_true rfl, Nat.le_of_ble_eq_true rfl⟩ (rr := (1, M')) (fun pc bc bs ls hd => by
      intro ad H locs arr cells slots g1 g2 g3 g4 g5 g6 g7 g8
      refine va_forget (fun q hq => hA2 _ (g3.2.2 q hq)) ?_
      exact W.widen (k := 601024) (n := 7293034) (by omega) (by omega) (lw_ret hx hb hr hlocks hd)) 100000 M0x hlaw (by omega) (by omega)
  rw [lg_entry_eq]
  have hl := lv_entry ([.ref b]) (n := 7) (Nat.le_of_ble_eq_true rfl)
  generalize (lg_sl ([.ref b]) ++ List.replicate (7 - (lg_sl ([.ref b])).length) Slot.unset).toArray = arr at hl ⊢
  have hl : lv_has arr 7 [(0, .ref b)] := hl
  have hno : ∀ cx sx : Nat, ¬ sx < gA M0x cx := fun cx sx => Nat.not_lt_zero sx
  refine hwalk (fun cx q => if cx = 30 then whS aK aV b z t q else 0) s.heap [] arr 0 0 ⟨fun q => rfl, fun cx sx h => absurd h (hno cx sx)⟩ ⟨fun cx sx h => absurd h (hno cx sx), fun cx sx cy sy h => absurd h (hno cx sx), fun cx sx k sy h => absurd h (hno cx sx), fun sx k h => absurd h (hno 22 sx)⟩ va_S.rf hl (fun q hq => ?_) (fun q hq => nomatch hq) (by omega) (by omega)
  rw [mem_1 hq]
  exact Or.inr rfl
