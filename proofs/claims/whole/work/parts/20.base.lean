/-! ===== pure mathematics: ints, loops, the class's tables ===== -/
def i3 (n : Nat) : Int32 := Int32.ofNat n
theorem i3_toInt {n : Nat} (h : n < 2147483648) : (i3 n).toInt = n := Int32.toInt_ofNat_of_lt h
theorem i3_add (a b : Nat) : i3 a + i3 b = i3 (a + b) := (Int32.ofNat_add a b).symm
theorem i3_mul (a b : Nat) : i3 a * i3 b = i3 (a * b) := (Int32.ofNat_mul a b).symm
theorem i3_sub {a b : Nat} (h : b ≤ a) : i3 a - i3 b = i3 (a - b) := (Int32.ofNat_sub a b h).symm
theorem i3_add1 (a : Nat) : i3 a + 1 = i3 (a + 1) := i3_add a 1
theorem i3_addl (a n : Nat) : i3 a + (no_index (OfNat.ofNat n) : Int32) = i3 (a + OfNat.ofNat n) := i3_add a n
theorem i3_ladd (a n : Nat) : (no_index (OfNat.ofNat n) : Int32) + i3 a = i3 (OfNat.ofNat n + a) := i3_add n a
theorem i3_mull (a n : Nat) : i3 a * (no_index (OfNat.ofNat n) : Int32) = i3 (a * OfNat.ofNat n) := i3_mul a n
theorem i3_lmul (a n : Nat) : (no_index (OfNat.ofNat n) : Int32) * i3 a = i3 (OfNat.ofNat n * a) := i3_mul n a
theorem i3_subl {a n : Nat} (h : (OfNat.ofNat n : Nat) ≤ a) : i3 a - (no_index (OfNat.ofNat n) : Int32) = i3 (a - OfNat.ofNat n) := i3_sub h
theorem i3_div4 {a : Nat} (h : a < 2147483648) : i3 a / 4 = i3 (a / 4) := (Int32.ofNat_div h (by decide)).symm
theorem i3_div {a b : Nat} (ha : a < 2147483648) (hb : b < 2147483648) : i3 a / i3 b = i3 (a / b) := (Int32.ofNat_div ha hb).symm
theorem i3_le {a b : Nat} (ha : a < 2147483648) (hb : b < 2147483648) : i3 a ≤ i3 b ↔ a ≤ b := Int32.ofNat_le_iff_le ha hb
theorem i3_lt {a b : Nat} (ha : a < 2147483648) (hb : b < 2147483648) : i3 a < i3 b ↔ a < b := Int32.ofNat_lt_iff_lt ha hb
theorem i3_eq {a b : Nat} (ha : a < 2147483648) (hb : b < 2147483648) : i3 a = i3 b ↔ a = b :=
  ⟨fun h => by have := congrArg Int32.toInt h; rw [i3_toInt ha, i3_toInt hb] at this; omega, fun h => by rw [h]⟩
theorem i3_lel {a n : Nat} (ha : a < 2147483648) (hn : (OfNat.ofNat n : Nat) < 2147483648) : i3 a ≤ (no_index (OfNat.ofNat n) : Int32) ↔ a ≤ OfNat.ofNat n := i3_le ha hn
theorem i3_lle {a n : Nat} (ha : a < 2147483648) (hn : (OfNat.ofNat n : Nat) < 2147483648) : (no_index (OfNat.ofNat n) : Int32) ≤ i3 a ↔ OfNat.ofNat n ≤ a := i3_le hn ha
theorem i3_ltl {a n : Nat} (ha : a < 2147483648) (hn : (OfNat.ofNat n : Nat) < 2147483648) : i3 a < (no_index (OfNat.ofNat n) : Int32) ↔ a < OfNat.ofNat n := i3_lt ha hn
theorem i3_llt {a n : Nat} (ha : a < 2147483648) (hn : (OfNat.ofNat n : Nat) < 2147483648) : (no_index (OfNat.ofNat n) : Int32) < i3 a ↔ OfNat.ofNat n < a := i3_lt hn ha
theorem i3_eql {a n : Nat} (ha : a < 2147483648) (hn : (OfNat.ofNat n : Nat) < 2147483648) : i3 a = (no_index (OfNat.ofNat n) : Int32) ↔ a = OfNat.ofNat n := i3_eq ha hn
theorem i3_leq {a n : Nat} (ha : a < 2147483648) (hn : (OfNat.ofNat n : Nat) < 2147483648) : (no_index (OfNat.ofNat n) : Int32) = i3 a ↔ OfNat.ofNat n = a := i3_eq hn ha
theorem i3_nl {a : Nat} (ha : a < 2147483648) : (i3 a < 0) = False := by
  apply eq_false
  intro h
  exact Nat.not_lt_zero _ ((i3_ltl (n := 0) ha (by decide)).mp h)
theorem i3_0l {a : Nat} (ha : a < 2147483648) : (0 ≤ i3 a) = True := eq_true ((i3_lle (n := 0) ha (by decide)).mpr (Nat.zero_le _))
theorem i3_nn {a : Nat} (ha : a < 2147483648) : (i3 a = -1) = False := by
  apply eq_false
  intro h
  have := congrArg Int32.toInt h
  rw [i3_toInt ha] at this
  have e : (-1 : Int32).toInt = -1 := by decide
  omega
theorem n1_lt : ((-1 : Int32) < 0) = True := eq_true (by decide)
theorem n1_le : ((0 : Int32) ≤ -1) = False := eq_false (by decide)
theorem i3_addn {a : Nat} (h : 1 ≤ a) : i3 a + (-1) = i3 (a - 1) := by
  rw [← i3_sub h]
  show i3 a + (-1) = i3 a - 1
  rw [Int32.sub_eq_add_neg]
theorem xi_i3 {n : Nat} (h : n < 2147483648) : xi (i3 n) = n := Int32.toNatClampNeg_ofNat_of_lt h
theorem xin_i3 {i n : Nat} (h : i < n) (hn : n ≤ 2147483648) : xin (i3 i) n = true := by
  unfold xin
  cases n with
  | zero => omega
  | succ k =>
    simp only [i3_toInt (Nat.lt_of_lt_of_le h hn)]
    exact decide_eq_true ⟨by omega, by omega⟩
theorem xi_lit (n : Nat) (h : (OfNat.ofNat n : Nat) < 2147483648) : xi (no_index (OfNat.ofNat n) : Int32) = OfNat.ofNat n := xi_i3 h
theorem xin_lit {i n : Nat} (h : (OfNat.ofNat i : Nat) < n) (hn : n ≤ 2147483648) : xin (no_index (OfNat.ofNat i) : Int32) n = true := xin_i3 h hn
theorem xin_ex {x : Int32} {n : Nat} (h : xin x n = true) (hn : n ≤ 2147483648) : ∃ i, i < n ∧ x = i3 i := by
  unfold xin at h
  cases n with
  | zero => cases h
  | succ k =>
    have h2 := of_decide_eq_true h
    refine ⟨x.toInt.toNat, by omega, ?_⟩
    apply Int32.toInt_inj.mp
    rw [i3_toInt (by omega)]
    omega
theorem i3_of {x : Int32} (h : 0 ≤ x) : ∃ n, n < 2147483648 ∧ x = i3 n := by
  have h1 : 0 ≤ x.toInt := Int32.le_iff_toInt_le.mp h
  have h2 := Int32.toInt_lt x
  refine ⟨x.toInt.toNat, by omega, ?_⟩
  apply Int32.toInt_inj.mp
  rw [i3_toInt (by omega)]
  omega
theorem xb0 : xbool 0 = true := rfl
theorem xb1 : xbool 1 = true := rfl
theorem gd_t {ρ : Type} (x : Option ρ) : gd true x = x := rfl
theorem nz4 : (!((4 : Int32) == 0)) = true := by decide
theorem i3_lits (n : Nat) : Int32.ofNat n = i3 n := rfl
/-! loops -/
theorem lpc {ρ α : Type} (F : Nat → Nat → α → Option ρ) (g : Nat → α) (N : Nat) (r : Option ρ)
    (h1 : ∀ n i, i < N → F (n + 1) i (g i) = F n (i + 1) (g (i + 1)))
    (h2 : ∀ n, F (n + 1) N (g N) = r) : ∀ n i, i ≤ N → N - i < n → F n i (g i) = r := by
  intro n
  induction n with
  | zero => intro i _ h; omega
  | succ n ih =>
    intro i hi hn
    rcases Nat.lt_or_ge i N with h | h
    · rw [h1 n i h]; exact ih (i + 1) (by omega) (by omega)
    · have e : i = N := by omega
      rw [e]; exact h2 n
def lst (p : Nat → Bool) : Nat → Option Nat
  | 0 => none
  | n + 1 => match lst p n with
    | some i => some i
    | none => if p n then some n else none
theorem lst_none {p : Nat → Bool} : ∀ {n : Nat}, lst p n = none ↔ ∀ i, i < n → p i = false
  | 0 => ⟨fun _ i h => by omega, fun _ => rfl⟩
  | n + 1 => by
    unfold lst
    cases h : lst p n with
    | some i =>
      simp only [reduceCtorEq, false_iff]
      intro h2
      have := (lst_none (p := p) (n := n)).mpr (fun i hi => h2 i (by omega))
      rw [h] at this; cases this
    | none =>
      have ih := lst_none.mp h
      cases hp : p n with
      | true =>
        simp only [if_true, reduceCtorEq, false_iff]
        intro h2
        have := h2 n (by omega)
        rw [hp] at this; cases this
      | false =>
        simp only [Bool.false_eq_true, if_false, true_iff]
        intro i hi
        rcases Nat.lt_or_ge i n with h3 | h3
        · exact ih i h3
        · have : i = n := by omega
          rw [this, hp]
theorem lst_some {p : Nat → Bool} : ∀ {n i : Nat}, lst p n = some i ↔ i < n ∧ p i = true ∧ ∀ j, j < i → p j = false
  | 0, i => ⟨fun h => (by cases h), fun h => absurd h.1 (Nat.not_lt_zero _)⟩
  | n + 1, i => by
    unfold lst
    cases h : lst p n with
    | some k =>
      have hk := lst_some.mp h
      constructor
      · intro e; cases e; exact ⟨by omega, hk.2⟩
      · intro e
        rcases Nat.lt_trichotomy k i with h3 | h3 | h3
        · have := e.2.2 k h3; rw [hk.2.1] at this; cases this
        · rw [h3]
        · have := hk.2.2 i h3; rw [e.2.1] at this; cases this
    | none =>
      have ih := lst_none.mp h
      cases hp : p n with
      | true =>
        simp only [if_true]
        constructor
        · intro e; cases e; exact ⟨by omega, hp, ih⟩
        · intro e
          rcases Nat.lt_or_ge i n with h3 | h3
          · have := ih i h3; rw [e.2.1] at this; cases this
          · have : i = n := by omega
            rw [this]
      | false =>
        simp only [Bool.false_eq_true, if_false, reduceCtorEq, false_iff]
        intro e
        rcases Nat.lt_or_ge i n with h3 | h3
        · have := ih i h3; rw [e.2.1] at this; cases this
        · have : i = n := by omega
          rw [this, hp] at e; cases e.2.1
/-- a search with an early way out -/
theorem lpx {ρ : Type} (F : Nat → Nat → Option ρ) (p : Nat → Bool) (N : Nat) (r : Option ρ) (e : Nat → Option ρ)
    (h1 : ∀ n i, i < N → p i = false → F (n + 1) i = F n (i + 1)) (h1' : ∀ n i, i < N → p i = true → F (n + 1) i = e i)
    (h2 : ∀ n, F (n + 1) N = r) : ∀ n, N < n → F n 0 = match lst p N with | some i => e i | none => r := by
  have key : ∀ n i, i ≤ N → N - i < n → (∀ j, j < i → p j = false) → F n i = match lst p N with | some i => e i | none => r := by
    intro n
    induction n with
    | zero => intro i _ h; omega
    | succ n ih =>
      intro i hi hn hp
      rcases Nat.lt_or_ge i N with h | h
      · cases hpi : p i with
        | false =>
          rw [h1 n i h hpi]
          refine ih (i + 1) (by omega) (by omega) (fun j hj => ?_)
          rcases Nat.lt_or_ge j i with h3 | h3
          · exact hp j h3
          · have : j = i := by omega
            rw [this, hpi]
        | true =>
          rw [h1' n i h hpi, lst_some.mpr ⟨h, hpi, hp⟩]
      · have e : i = N := by omega
        rw [e] at hp ⊢
        rw [h2 n, lst_none.mpr hp]
  intro n hn
  exact key n 0 (by omega) (by omega) (fun j hj => by omega)
def cnt (p : Nat → Bool) : Nat → Nat
  | 0 => 0
  | n + 1 => if p n then cnt p n + 1 else cnt p n
theorem cnt_le (p : Nat → Bool) : ∀ n, cnt p n ≤ n
  | 0 => Nat.le_refl _
  | n + 1 => by
    unfold cnt
    have := cnt_le p n
    split <;> omega
theorem cnt_congr {p q : Nat → Bool} : ∀ {n : Nat}, (∀ i, i < n → p i = q i) → cnt p n = cnt q n
  | 0, _ => rfl
  | n + 1, h => by
    unfold cnt
    rw [h n (by omega), cnt_congr (fun i hi => h i (by omega))]
/-! tables -/
abbrev xT : Type := Nat → Nat → Int32
def up (D : xT) (j k : Nat) (v : Int32) : xT := fun j' k' => if j' = j ∧ k' = k then v else D j' k'
theorem up_at {D : xT} {j k j' k' : Nat} {v : Int32} : up D j k v j' k' = if j' = j ∧ k' = k then v else D j' k' := rfl
def cb (d : Nat) : Nat := if d < 2 then 22 + 11 * d else 28 + 11 * d
def ob (d : Nat) : Nat := if d < 2 then 3 * d else 2 + 3 * d
/-- whose field a row of cells is: disk d with its chip (0 .. 15), the finder (16 .. 19), the ends (20 .. 24), the rules' scratch (25 .. 28) -/
def own (d c s : Nat) : Option Nat :=
  if c = 20 then (if cb d ≤ s ∧ s < cb d + 11 then some (s - cb d) else if 18 ≤ s ∧ s < 22 then some (s - 2) else if 47 ≤ s ∧ s < 50 then some (s - 27) else if s = 3 then some 25 else if s = 4 then some 26 else if s = 8 then some 27 else if s = 9 then some 28 else none)
  else if c = 22 then (if ob d ≤ s ∧ s < ob d + 3 then some (s - ob d + 11) else if s = 7 then some 23 else none)
  else if c = 2 then (if s = d then some 14 else none)
  else if c = 0 then (if s = d then some 15 else none)
  else if c = 3 then (if s = 0 then some 24 else none) else none
def atC (j : Nat) : Nat := if j < 11 then 20 else if j < 14 then 22 else if j = 14 then 2 else if j = 15 then 0 else if j < 23 then 20 else if j = 23 then 22 else if j = 24 then 3 else 20
def atS (d j : Nat) : Nat := if j < 11 then cb d + j else if j < 14 then ob d + (j - 11) else if j < 16 then d else if j < 20 then j + 2 else if j < 23 then j + 27 else if j = 23 then 7 else if j = 24 then 0 else if j = 25 then 3 else if j = 26 then 4 else if j = 27 then 8 else 9
theorem own_at {d c s j : Nat} (h : own d c s = some j) : c = atC j ∧ s = atS d j := by
  unfold own at h
  by_cases c20 : c = 20
  · rw [if_pos c20] at h
    by_cases p1 : cb d ≤ s ∧ s < cb d + 11
    · rw [if_pos p1] at h; injection h with h
      unfold atC atS; rw [if_pos (by omega), if_pos (by omega)]; exact ⟨c20, by omega⟩
    rw [if_neg p1] at h
    by_cases p2 : 18 ≤ s ∧ s < 22
    · rw [if_pos p2] at h; injection h with h
      unfold atC atS; rw [if_neg (by omega), if_neg (by omega), if_neg (by omega), if_neg (by omega), if_pos (by omega), if_neg (by omega), if_neg (by omega), if_neg (by omega), if_pos (by omega)]; exact ⟨c20, by omega⟩
    rw [if_neg p2] at h
    by_cases p3 : 47 ≤ s ∧ s < 50
    · rw [if_pos p3] at h; injection h with h
      unfold atC atS; rw [if_neg (by omega), if_neg (by omega), if_neg (by omega), if_neg (by omega), if_pos (by omega), if_neg (by omega), if_neg (by omega), if_neg (by omega), if_neg (by omega), if_pos (by omega)]; exact ⟨c20, by omega⟩
    rw [if_neg p3] at h
    by_cases p4 : s = 3
    · rw [if_pos p4] at h; injection h with h; subst h; exact ⟨c20, p4⟩
    rw [if_neg p4] at h
    by_cases p5 : s = 4
    · rw [if_pos p5] at h; injection h with h; subst h; exact ⟨c20, p5⟩
    rw [if_neg p5] at h
    by_cases p6 : s = 8
    · rw [if_pos p6] at h; injection h with h; subst h; exact ⟨c20, p6⟩
    rw [if_neg p6] at h
    by_cases p7 : s = 9
    · rw [if_pos p7] at h; injection h with h; subst h; exact ⟨c20, p7⟩
    rw [if_neg p7] at h; cases h
  rw [if_neg c20] at h
  by_cases c22 : c = 22
  · rw [if_pos c22] at h
    by_cases p1 : ob d ≤ s ∧ s < ob d + 3
    · rw [if_pos p1] at h; injection h with h
      unfold atC atS; rw [if_neg (by omega), if_pos (by omega), if_neg (by omega), if_pos (by omega)]; exact ⟨c22, by omega⟩
    rw [if_neg p1] at h
    by_cases p2 : s = 7
    · rw [if_pos p2] at h; injection h with h; subst h; exact ⟨c22, p2⟩
    rw [if_neg p2] at h; cases h
  rw [if_neg c22] at h
  by_cases c2 : c = 2
  · rw [if_pos c2] at h
    by_cases p2 : s = d
    · rw [if_pos p2] at h; injection h with h; subst h; exact ⟨c2, p2⟩
    rw [if_neg p2] at h; cases h
  rw [if_neg c2] at h
  by_cases c0 : c = 0
  · rw [if_pos c0] at h
    by_cases p2 : s = d
    · rw [if_pos p2] at h; injection h with h; subst h; exact ⟨c0, p2⟩
    rw [if_neg p2] at h; cases h
  rw [if_neg c0] at h
  by_cases c3 : c = 3
  · rw [if_pos c3] at h
    by_cases p2 : s = 0
    · rw [if_pos p2] at h; injection h with h; subst h; exact ⟨c3, p2⟩
    rw [if_neg p2] at h; cases h
  rw [if_neg c3] at h; cases h
def emf (o : Option Nat) (D : xT) (k : Nat) (z : Int32) : Int32 := match o with
  | some j => D j k
  | none => z
def emb (d : Nat) (D : xT) (M : xM) : xM := (fun c s k => emf (own d c s) D k (M.1 c s k), M.2)
theorem gI_own {d c s j k : Nat} {D : xT} {M : xM} (h : own d c s = some j) : gI (emb d D M) c s k = D j k := by show emf (own d c s) D k (M.1 c s k) = _; rw [h]; rfl
theorem gI_not {d c s k : Nat} {D : xT} {M : xM} (h : own d c s = none) : gI (emb d D M) c s k = gI M c s k := by show emf (own d c s) D k (M.1 c s k) = _; rw [h]; rfl
theorem sI_own {d c s j k : Nat} {D : xT} {M : xM} {v : Int32} (h : own d c s = some j) : sI (emb d D M) c s k v = emb d (up D j k v) M := by
  refine Prod.ext ?_ rfl
  funext c' s' k'
  show (if c' = c ∧ s' = s ∧ k' = k then v else emf (own d c' s') D k' (M.1 c' s' k')) = emf (own d c' s') (up D j k v) k' (M.1 c' s' k')
  cases e : own d c' s' with
  | none =>
    have : ¬ (c' = c ∧ s' = s ∧ k' = k) := fun q => by rw [q.1, q.2.1, h] at e; cases e
    rw [if_neg this]; rfl
  | some j' =>
    show (if c' = c ∧ s' = s ∧ k' = k then v else D j' k') = if j' = j ∧ k' = k then v else D j' k'
    have a := own_at h
    have b := own_at e
    by_cases q : j' = j
    · subst q; rw [a.1, a.2, b.1, b.2]; simp
    · have : ¬ (c' = c ∧ s' = s ∧ k' = k) := fun r => by rw [r.1, r.2.1, h] at e; injection e with e; exact q e.symm
      rw [if_neg this, if_neg (fun r => q r.1)]
theorem gR_emb (d : Nat) (D : xT) (M : xM) (c s k : Nat) : gR (emb d D M) c s k = gR M c s k := rfl
theorem gN_emb (d : Nat) (D : xT) (M : xM) (c s : Nat) : gN (emb d D M) c s = gN M c s := rfl
theorem gL_emb (d : Nat) (D : xT) (M : xM) (c s k : Nat) : gL (emb d D M) c s k = gL M c s k := rfl
theorem emb_self (d : Nat) (M : xM) : ∃ D, M = emb d D M := ⟨fun j k => M.1 (atC j) (atS d j) k, by
  refine Prod.ext ?_ rfl
  funext c s k
  show M.1 c s k = emf (own d c s) (fun j k => M.1 (atC j) (atS d j) k) k (M.1 c s k)
  cases e : own d c s with
  | none => rfl
  | some j =>
    have a := own_at e
    show M.1 c s k = M.1 (atC j) (atS d j) k
    rw [← a.1, ← a.2]⟩
theorem ow_a {d j : Nat} (h : j < 11) : own d 20 (cb d + j) = some j := by
  unfold own
  rw [if_pos rfl, if_pos ⟨by omega, by omega⟩]
  congr 1; omega
theorem ow_b {d j : Nat} (h : j < 3) : own d 22 (ob d + j) = some (j + 11) := by
  unfold own
  rw [if_neg (by decide), if_pos rfl, if_pos ⟨by omega, by omega⟩]
  congr 2; omega
theorem ow_2 (d : Nat) : own d 2 d = some 14 := by unfold own; simp
theorem ow_0 (d : Nat) : own d 0 d = some 15 := by unfold own; simp
theorem ow_3 (d : Nat) : own d 3 0 = some 24 := by unfold own; simp
theorem cb_le (d : Nat) : 22 ≤ cb d := by unfold cb; split <;> omega
theorem cb_no (d j : Nat) (h : 44 ≤ j) (h2 : j < 50) : ¬ (cb d ≤ j ∧ j < cb d + 11) := by unfold cb; split <;> omega
theorem ob_no (d : Nat) : ¬ (ob d ≤ 7 ∧ 7 < ob d + 3) := by unfold ob; split <;> omega
theorem ow_f {d j : Nat} (h : 18 ≤ j) (h2 : j < 22) : own d 20 j = some (j - 2) := by
  have := cb_le d
  unfold own
  rw [if_pos rfl, if_neg (by omega), if_pos ⟨h, h2⟩]
theorem ow_e {d j : Nat} (h : 47 ≤ j) (h2 : j < 50) : own d 20 j = some (j - 27) := by
  unfold own
  rw [if_pos rfl, if_neg (cb_no d j (by omega) h2), if_neg (by omega), if_pos ⟨h, h2⟩]
theorem ow_t (d : Nat) : own d 22 7 = some 23 := by
  unfold own
  rw [if_neg (by decide), if_pos rfl, if_neg (ob_no d), if_pos rfl]
theorem ow_lo {d j : Nat} (h : j < 18) (h3 : j ≠ 3) (h4 : j ≠ 4) (h8 : j ≠ 8) (h9 : j ≠ 9) : own d 20 j = none := by
  have := cb_le d
  unfold own
  rw [if_pos rfl, if_neg (by omega), if_neg (by omega), if_neg (by omega), if_neg h3, if_neg h4, if_neg h8, if_neg h9]
theorem ow_s3 (d : Nat) : own d 20 3 = some 25 := by have := cb_le d; unfold own; rw [if_pos rfl, if_neg (by omega), if_neg (by omega), if_neg (by omega), if_pos rfl]
theorem ow_s4 (d : Nat) : own d 20 4 = some 26 := by have := cb_le d; unfold own; rw [if_pos rfl, if_neg (by omega), if_neg (by omega), if_neg (by omega), if_neg (by decide), if_pos rfl]
theorem ow_s8 (d : Nat) : own d 20 8 = some 27 := by have := cb_le d; unfold own; rw [if_pos rfl, if_neg (by omega), if_neg (by omega), if_neg (by omega), if_neg (by decide), if_neg (by decide), if_pos rfl]
theorem ow_s9 (d : Nat) : own d 20 9 = some 28 := by have := cb_le d; unfold own; rw [if_pos rfl, if_neg (by omega), if_neg (by omega), if_neg (by omega), if_neg (by decide), if_neg (by decide), if_neg (by decide), if_pos rfl]
theorem ow_hi {d j : Nat} (hd : d < 5) (h : 83 ≤ j) : own d 20 j = none := by
  unfold own cb
  rw [if_pos rfl]
  (repeat' split) <;> first | rfl | omega
theorem nw_pos {s nb nw : Nat} (h : s < nb * nw) : 0 < nw := Nat.pos_of_ne_zero (fun e => by rw [e, Nat.mul_zero] at h; omega)
theorem ne10 : ((1 : Int32) = 0) = False := eq_false (by decide)
theorem up_ne {D : xT} {j k j' k' : Nat} {v : Int32} (h : j' ≠ j ∨ k' ≠ k) : up D j k v j' k' = D j' k' := by rw [up_at, if_neg (by omega)]
theorem up_eq {D : xT} {j k : Nat} {v : Int32} : up D j k v j k = v := by rw [up_at, if_pos ⟨rfl, rfl⟩]
