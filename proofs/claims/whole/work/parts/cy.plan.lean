/-! ===== a PLAN's lines: what they say ===== -/
/-- what is told so far: numbers (as the plan's table), names, told, the rule's codes -/
abbrev plS : Type := xC × (Nat → List Nat) × Nat × List Nat
def cUp (C : xC) (j k v : Nat) : xC := fun a b => if a = j ∧ b = k then v else C a b
def nUp (nm : Nat → List Nat) (k : Nat) (l : List Nat) : Nat → List Nat := fun j => if j = k then l else nm j
/-- which kind -/
def kdO (f : Nat → Nat) (t s : Nat) : Option Nat := match tkK f t s with
  | some k => if 12 ≤ k ∧ k ≤ 15 then some (k - 12) else none
  | none => none
/-- a number's line: told bit j, from lo to hi -/
def plNum (f : Nat → Nat) (t : Nat) (S : plS) (j lo hi i : Nat) : Nat × Nat × plS := ((tkNu f t (i + 1) lo hi).1, (tkNu f t (i + 1) lo hi).2.1, cUp S.1 0 j (tkNu f t (i + 1) lo hi).2.2, S.2.1, S.2.2.1 + 2 ^ j, S.2.2.2)
/-- the rule's line -/
def plRule (f : Nat → Nat) (t : Nat) (S : plS) (i : Nat) : Nat × Nat × plS := ((pAll f t (pPart f t 16 0) (i + 1) []).1, (pAll f t (pPart f t 16 0) (i + 1) []).2.1, cUp S.1 0 4 (pAll f t (pPart f t 16 0) (i + 1) []).2.2.length, S.2.1, S.2.2.1 + 8, (pAll f t (pPart f t 16 0) (i + 1) []).2.2)
/-- a FILE, its name known to be new: its kind is told at token i -/
def plKind (f : Nat → Nat) (t : Nat) (S : plS) (ls : List Nat) (i : Nat) : Nat × Nat × plS := match kdO f t (tS f t i) with
  | some k => if tkK f t (tS f t (i + 1)) = some 4 then ((tkNu f t (i + 2) 1 4).1, (tkNu f t (i + 2) 1 4).2.1, cUp (cUp (cUp S.1 1 (S.1 0 3) k) 2 (S.1 0 3) (tkNu f t (i + 2) 1 4).2.2) 0 3 (S.1 0 3 + 1), nUp S.2.1 (S.1 0 3) ls, S.2.2.1, S.2.2.2) else (1 + 16 * tS f t (i + 1), i + 1, S)
  | none => (1 + 16 * tS f t i, i, S)
/-- a FILE's line -/
def plFile (f : Nat → Nat) (t : Nat) (S : plS) (i : Nat) : Nat × Nat × plS :=
  if S.1 0 3 < 5 then (if isNm f t (tS f t (i + 1)) = true then (match ixO S.2.1 (S.1 0 3) (tkL f t (tS f t (i + 1))) with
    | none => plKind f t S (tkL f t (tS f t (i + 1))) (i + 2)
    | some _ => (3 + 16 * tS f t (i + 1), i + 1, S)) else (1 + 16 * tS f t (i + 1), i + 1, S)) else (5 + 16 * tS f t i, i, S)
/-- a line: 0 blocks, 1 slots, 2 reserve, 3 file, 5 collects -/
def plLn (f : Nat → Nat) (t : Nat) (S : plS) (i : Nat) : Nat × Nat × plS := match tkK f t (tS f t i) with
  | some k => if k = 3 then plFile f t S i else if k < 3 then (if S.2.2.1 / 2 ^ k % 2 = 0 then plNum f t S k (if k = 2 then 0 else 1) (if k = 2 then 8 else 6) i else (3 + 16 * tS f t i, i, S)) else if k = 5 then (if S.2.2.1 / 8 % 2 = 0 then plRule f t S i else (3 + 16 * tS f t i, i, S)) else (1 + 16 * tS f t i, i, S)
  | none => (1 + 16 * tS f t i, i, S)
/-- all lines -/
def plP (f : Nat → Nat) (t : Nat) : Nat → plS → Nat → Nat × Nat × plS
  | 0, S, i => (0, i, S)
  | m + 1, S, i => if tkT f t (tS f t i) = 0 then (0, i, S) else
    if (plLn f t S i).1 = 0 then (if (tkSg f t (plLn f t S i).2.1 59).1 = 0 then plP f t m (plLn f t S i).2.2 (tkSg f t (plLn f t S i).2.1 59).2 else ((tkSg f t (plLn f t S i).2.1 59).1, (tkSg f t (plLn f t S i).2.1 59).2, (plLn f t S i).2.2))
    else plLn f t S i
/-- what is told can be -/
def PlOk (S : plS) : Prop := S.1 0 0 ≤ 6 ∧ S.1 0 1 ≤ 6 ∧ S.1 0 2 ≤ 8 ∧ S.1 0 3 ≤ 5 ∧ S.1 0 4 = S.2.2.2.length ∧ S.2.2.2.length ≤ 1000 ∧ S.2.2.1 < 16 ∧ (∀ k, k < S.1 0 3 → S.1 1 k < 4 ∧ 1 ≤ S.1 2 k ∧ S.1 2 k ≤ 4 ∧ (S.2.1 k).length ≤ 8 ∧ ∀ x, x ∈ S.2.1 k → 1 ≤ x ∧ x ≤ 26) ∧
  (∀ k j, k < S.1 0 3 → j < S.1 0 3 → S.2.1 k = S.2.1 j → k = j) ∧ (S.2.2.1 / 8 % 2 = 0 → S.2.2.2 = []) ∧ (S.2.2.1 / 8 % 2 = 1 → WF S.2.2.2 ∧ hL S.2.2.2 = 1)
/-- the class keeps the rule's told bit as 32 -/
def cmT (m : Nat) : Nat := m % 8 + 32 * (m / 8)
/-- the class's plan a, while it is read -/
def PlC (a : Nat) (S : plS) (M : xM) : Prop := (∀ j, j < 4 → gI M 7 a j = i3 (S.1 0 j)) ∧ gI M 7 a 8 = i3 (cmT S.2.2.1) ∧ (∀ k, k < S.1 0 3 → gI M 20 (5 * a + 0) k = i3 (S.1 1 k) ∧ gI M 20 (5 * a + 1) k = i3 (S.1 2 k) ∧ gL M 21 a k = Int64.ofNat (enc 32 (S.2.1 k))) ∧ CdC a S.2.2.2 M
/-- what reading a plan leaves alone -/
def PnF (a : Nat) (M M' : xM) : Prop := (∀ c s k, gR M' c s k = gR M c s k) ∧ (∀ c s, gN M' c s = gN M c s) ∧ (∀ c s k, (c ≠ 10 ∨ s ≠ 0 ∨ k ≠ 6) → (c ≠ 21 ∨ s ≠ a) → gL M' c s k = gL M c s k) ∧ ∀ c s k, (c ≠ 10 ∨ s ≠ 0 ∨ k = 1) → (c ≠ 7 ∨ s ≠ a) → (c ≠ 8 ∨ s ≠ a ∨ k ≠ 3) → (c ≠ 20 ∨ s < 5 * a ∨ 5 * a + 3 ≤ s) → gI M' c s k = gI M c s k
section
variable {M M' M1 N : xM} {X Y Y' Y1 : xT} {f : Nat → Nat} {fu l t T n i j k d s x a b w F e m g lo hi p : Nat} {c ls : List Nat} {q : Nat × Nat} {u v y0 : Int32} {nm : Nat → List Nat} {S S' : plS} {y : Int64}
theorem PnF_tr (h : PnF a M M1) (h2 : PnF a M1 M') : PnF a M M' := ⟨fun c s k => (h2.1 c s k).trans (h.1 c s k), fun c s => (h2.2.1 c s).trans (h.2.1 c s), fun c s k q r => (h2.2.2.1 c s k q r).trans (h.2.2.1 c s k q r), fun c s k q1 q2 q3 q4 => (h2.2.2.2 c s k q1 q2 q3 q4).trans (h.2.2.2 c s k q1 q2 q3 q4)⟩
theorem PnF_rf : PnF a M M := ⟨fun _ _ _ => rfl, fun _ _ => rfl, fun _ _ _ _ _ => rfl, fun _ _ _ _ _ _ _ => rfl⟩
theorem PnF_ny (h : NyF M M') : PnF a M M' := ⟨h.1, h.2.1, fun c s k q _ => h.2.2.1 c s k q, fun c s k q1 _ _ _ => h.2.2.2 c s k q1⟩
theorem PnF_rd (h : RdF a M M') : PnF a M M' := ⟨h.1, h.2.1, fun c s k q _ => h.2.2.1 c s k q, fun c s k q1 q2 q3 q4 => h.2.2.2 c s k q1 q3 (by omega)⟩
theorem PnF_7 : PnF a M (sI M 7 a k v) := ⟨fun _ _ _ => rfl, fun _ _ => rfl, fun _ _ _ _ _ => rfl, fun c s k q1 q2 q3 q4 => by rw [gI_sI, if_neg (by omega)]⟩
theorem PnF_20 (h : 5 * a ≤ s ∧ s < 5 * a + 3) : PnF a M (sI M 20 s k v) := ⟨fun _ _ _ => rfl, fun _ _ => rfl, fun _ _ _ _ _ => rfl, fun c s k q1 q2 q3 q4 => by rw [gI_sI, if_neg (by omega)]⟩
theorem gL_sLo {c s k c' s' k' : Nat} : gL (sL M c s k y) c' s' k' = if c' = c ∧ s' = s ∧ k' = k then y else gL M c' s' k' := rfl
theorem PnF_21 : PnF a M (sL M 21 a k y) := ⟨fun _ _ _ => rfl, fun _ _ => rfl, fun c s k q r => by rw [gL_sLo, if_neg (by omega)], fun c s k _ _ _ _ => rfl⟩
theorem PlC_ny (h : PlC a S M) (hF : NyF M M') : PlC a S M' := ⟨fun j hj => (hF.2.2.2 _ _ _ (by omega)).trans (h.1 j hj), (hF.2.2.2 _ _ _ (by omega)).trans h.2.1, fun k hk => ⟨(hF.2.2.2 _ _ _ (by omega)).trans (h.2.2.1 k hk).1, (hF.2.2.2 _ _ _ (by omega)).trans (h.2.2.1 k hk).2.1, (hF.2.2.1 _ _ _ (by omega)).trans (h.2.2.1 k hk).2.2⟩, CdC_cg (fun k => hF.2.2.2 _ _ _ (by omega)) (hF.2.2.2 _ _ _ (by omega)) h.2.2.2⟩
theorem LnC_7 (h : LnC f t q M) : LnC f t q (sI M 7 a k v) := LnC_c h ⟨h.1.1, h.1.2.1, by rw [gI_sI, if_neg (by omega)]; exact h.1.2.2.1, fun i hi => by rw [gI_sI, if_neg (by omega)]; exact h.1.2.2.2 i hi⟩ (fun i => by rw [gI_sI, if_neg (by omega)]) rfl
theorem LnC_21 (h : LnC f t q M) : LnC f t q (sL M 21 s k y) := LnC_c h h.1 (fun i => rfl) (by rw [gL_sLo, if_neg (by omega)])
theorem kd_is (h : AtC f t s M) : (∃ k, kdO f t s = some k ∧ k < 4 ∧ gI M 10 0 3 = i3 (k + 12)) ∨ kdO f t s = none ∧ (gI M 10 0 3 < 12 ∨ ¬ gI M 10 0 3 < 12 ∧ ¬ gI M 10 0 3 ≤ 15) := by
  rw [h.2.2.2.2.2.1]
  unfold kdO
  cases e : tkK f t s with
  | none =>
    right
    rw [tkW_n e]
    exact ⟨rfl, Or.inl (by decide)⟩
  | some k =>
    have hk := (tkK_lt e).1
    rw [tkW_s e]
    by_cases c : 12 ≤ k ∧ k ≤ 15
    · left
      refine ⟨k - 12, ?_, by omega, by congr 1; omega⟩
      show (if 12 ≤ k ∧ k ≤ 15 then some (k - 12) else none) = some (k - 12)
      rw [if_pos c]
    · right
      refine ⟨?_, ?_⟩
      · show (if 12 ≤ k ∧ k ≤ 15 then some (k - 12) else none) = none
        rw [if_neg c]
      · by_cases c2 : k < 12
        · exact Or.inl ((i3_lt (b := 12) (by omega) (by omega)).mpr c2)
        · exact Or.inr ⟨fun z => c2 ((i3_lt (b := 12) (by omega) (by omega)).mp z), fun z => by have := (i3_le (b := 15) (by omega) (by omega)).mp z; omega⟩
/-- the word here is k -/
theorem wd_is (h : AtC f t s M) (hk : k < 23) : (gI M 10 0 3 = i3 k) = (tkK f t s = some k) := by
  rw [h.2.2.2.2.2.1]
  cases e : tkK f t s with
  | none =>
    rw [tkW_n e]
    exact propext ⟨fun z => absurd z (by
      intro q
      have h0 := ge0 (a := k) (by omega)
      rw [← q] at h0
      exact absurd h0 (by decide)), fun z => by cases z⟩
  | some m =>
    have hm := (tkK_lt e).1
    rw [tkW_s e]
    exact propext ⟨fun z => by rw [(i3_eq (by omega) (by omega)).mp z], fun z => by injection z with z; rw [z]⟩
end
