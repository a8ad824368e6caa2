/-! ===== both sides made: the kernel runs them ===== -/
def M0x : xM := (fun _ _ _ => 0, fun _ _ _ => 0, fun _ _ _ => none, fun _ _ => 0, fun _ => 0)
/-- the class made -/
def wA : Option xM := F_X11_init 100000 0 (nC M0x 11 0)
def wC : xM := wA.getD M0x
/-- the reference made -/
def wB : Option xM := F_X12_init 100000 0 (nC wC 12 0)
def wM : xM := wB.getD M0x
/-- the law's row too -/
def wL : xM := nC wM 21 1
theorem wA_some : wA.isSome = true := by decide +kernel
theorem wB_some : wB.isSome = true := by decide +kernel
theorem wA_eq : wA = some wC := by
  have h := wA_some
  unfold wC
  cases e : wA with
  | none => rw [e] at h; cases h
  | some x => rfl
theorem wB_eq : wB = some wM := by
  have h := wB_some
  unfold wM
  cases e : wB with
  | none => rw [e] at h; cases h
  | some x => rfl
theorem w_gA : gA wC 12 = 0 ∧ gA wM 21 = 7 := by decide +kernel
/-- all references, all lengths -/
def okR : Bool := (List.range 26).all fun c => (List.range 5).all fun s => (List.range 28).all fun k => match rT c s k with
  | none => true
  | some v => decide (gR wL c s k = v)
theorem okR_t : okR = true := by decide +kernel
def okN : Bool := ((List.range 99).all fun s => decide (nT 20 s = some (gN wL 20 s))) && ((List.range 8).all fun s => decide (nT 21 s = some (gN wL 21 s))) && ((List.range 21).all fun s => decide (nT 22 s = some (gN wL 22 s))) && decide (gN wL 23 0 = 1000 ∧ gN wL 24 0 = 2 ∧ gN wL 25 0 = 2)
theorem okN_t : okN = true := by decide +kernel
