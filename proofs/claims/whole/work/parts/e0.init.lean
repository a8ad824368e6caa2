/-! ===== both sides made: the kernel runs them ===== -/
def M0x : xM := (fun _ _ _ => 0, fun _ _ _ => 0, fun _ _ _ => none, fun _ _ => 0, fun _ => 0)
def wA : Option xM := F_X11_init 100000 0 (nC M0x 11 0)
def wC : xM := wA.getD M0x
theorem wA_some : wA.isSome = true := by decide +kernel
theorem wC_gA : gA wC 20 = 87 ∧ gA wC 21 = 2 ∧ gA wC 12 = 0 := by decide +kernel
theorem wC_t1 : gI wC 20 22 5 = 0 ∧ gI wC 20 25 35 = -1 := by decide +kernel
