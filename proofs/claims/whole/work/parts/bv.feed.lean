/-! ===== feed: a sign out of a long ===== -/
theorem b255 : ∀ i : Fin 32, (255#64).getLsbD i = decide ((i : Nat) < 8) ∧ (255#32).getLsbD i = decide ((i : Nat) < 8) := by decide
theorem ch_bits (X : BitVec 64) (n : Nat) (hn : n ≤ 56) : ((X >>> n &&& 255#64).setWidth 32 % 65536#32) = ((X.sshiftRight n).setWidth 32 &&& 255#32) := by
  have h1 : ((X >>> n &&& 255#64).setWidth 32).toNat < 256 := by
    rw [BitVec.toNat_setWidth, BitVec.toNat_and]
    refine Nat.lt_of_le_of_lt (Nat.mod_le _ _) ?_
    exact Nat.lt_of_le_of_lt Nat.and_le_right (by decide)
  have h2 : ((X >>> n &&& 255#64).setWidth 32 % 65536#32) = (X >>> n &&& 255#64).setWidth 32 := by
    apply BitVec.eq_of_toNat_eq
    rw [BitVec.toNat_umod]
    exact Nat.mod_eq_of_lt (Nat.lt_of_lt_of_le h1 (by decide))
  rw [h2]
  apply BitVec.eq_of_getLsbD_eq
  intro i hi
  obtain ⟨e1, e2⟩ := b255 ⟨i, hi⟩
  have e1' : (255#64).getLsbD i = decide (i < 8) := e1
  have e2' : (255#32).getLsbD i = decide (i < 8) := e2
  rw [BitVec.getLsbD_setWidth, BitVec.getLsbD_and, BitVec.getLsbD_ushiftRight, BitVec.getLsbD_and, BitVec.getLsbD_setWidth, BitVec.getLsbD_sshiftRight, e1', e2']
  by_cases c : i < 8
  · rw [decide_eq_true c, decide_eq_true hi, decide_eq_false (by omega : ¬ 64 ≤ i), if_pos (by omega : n + i < 64)]
    simp
  · rw [decide_eq_false c]
    simp
/-- a sign of a long, at a shift: the reference's -/
def chV (x : Int64) (s : Int32) : Int32 := (Int64.toInt32 (x >>> (s.toInt64 &&& 63))) &&& 255
/-- the class's -/
def chC (x : Int64) (s : Int32) : Int32 := (Int32.toUInt32 (Int64.toInt32 (((x.toUInt64 >>> (s.toInt64.toUInt64 &&& Int64.toUInt64 63)).toInt64) &&& 255)) % 65536).toInt32
theorem ch_56 (x : Int64) : chC x 56 = chV x 56 := by
  have h1 : (((56 : Int32)).toInt64.toUInt64 &&& Int64.toUInt64 63) = 56 := by decide
  have h2 : (((56 : Int32)).toInt64 &&& 63) = 56 := by decide
  unfold chC chV
  rw [h1, h2]
  apply Int32.toBitVec.inj
  show ((Int64.toInt32 (((x.toUInt64 >>> 56).toInt64) &&& 255)).toBitVec % 65536#32) = (Int64.toInt32 (x >>> 56)).toBitVec &&& 255#32
  rw [Int64.toBitVec_toInt32, Int64.toBitVec_toInt32, BitVec.signExtend_eq_setWidth_of_le _ (by omega), BitVec.signExtend_eq_setWidth_of_le _ (by omega)]
  exact ch_bits x.toBitVec 56 (by omega)
theorem ch_48 (x : Int64) : chC x 48 = chV x 48 := by
  have h1 : (((48 : Int32)).toInt64.toUInt64 &&& Int64.toUInt64 63) = 48 := by decide
  have h2 : (((48 : Int32)).toInt64 &&& 63) = 48 := by decide
  unfold chC chV
  rw [h1, h2]
  apply Int32.toBitVec.inj
  show ((Int64.toInt32 (((x.toUInt64 >>> 48).toInt64) &&& 255)).toBitVec % 65536#32) = (Int64.toInt32 (x >>> 48)).toBitVec &&& 255#32
  rw [Int64.toBitVec_toInt32, Int64.toBitVec_toInt32, BitVec.signExtend_eq_setWidth_of_le _ (by omega), BitVec.signExtend_eq_setWidth_of_le _ (by omega)]
  exact ch_bits x.toBitVec 48 (by omega)
theorem ch_40 (x : Int64) : chC x 40 = chV x 40 := by
  have h1 : (((40 : Int32)).toInt64.toUInt64 &&& Int64.toUInt64 63) = 40 := by decide
  have h2 : (((40 : Int32)).toInt64 &&& 63) = 40 := by decide
  unfold chC chV
  rw [h1, h2]
  apply Int32.toBitVec.inj
  show ((Int64.toInt32 (((x.toUInt64 >>> 40).toInt64) &&& 255)).toBitVec % 65536#32) = (Int64.toInt32 (x >>> 40)).toBitVec &&& 255#32
  rw [Int64.toBitVec_toInt32, Int64.toBitVec_toInt32, BitVec.signExtend_eq_setWidth_of_le _ (by omega), BitVec.signExtend_eq_setWidth_of_le _ (by omega)]
  exact ch_bits x.toBitVec 40 (by omega)
theorem ch_32 (x : Int64) : chC x 32 = chV x 32 := by
  have h1 : (((32 : Int32)).toInt64.toUInt64 &&& Int64.toUInt64 63) = 32 := by decide
  have h2 : (((32 : Int32)).toInt64 &&& 63) = 32 := by decide
  unfold chC chV
  rw [h1, h2]
  apply Int32.toBitVec.inj
  show ((Int64.toInt32 (((x.toUInt64 >>> 32).toInt64) &&& 255)).toBitVec % 65536#32) = (Int64.toInt32 (x >>> 32)).toBitVec &&& 255#32
  rw [Int64.toBitVec_toInt32, Int64.toBitVec_toInt32, BitVec.signExtend_eq_setWidth_of_le _ (by omega), BitVec.signExtend_eq_setWidth_of_le _ (by omega)]
  exact ch_bits x.toBitVec 32 (by omega)
theorem ch_24 (x : Int64) : chC x 24 = chV x 24 := by
  have h1 : (((24 : Int32)).toInt64.toUInt64 &&& Int64.toUInt64 63) = 24 := by decide
  have h2 : (((24 : Int32)).toInt64 &&& 63) = 24 := by decide
  unfold chC chV
  rw [h1, h2]
  apply Int32.toBitVec.inj
  show ((Int64.toInt32 (((x.toUInt64 >>> 24).toInt64) &&& 255)).toBitVec % 65536#32) = (Int64.toInt32 (x >>> 24)).toBitVec &&& 255#32
  rw [Int64.toBitVec_toInt32, Int64.toBitVec_toInt32, BitVec.signExtend_eq_setWidth_of_le _ (by omega), BitVec.signExtend_eq_setWidth_of_le _ (by omega)]
  exact ch_bits x.toBitVec 24 (by omega)
theorem ch_16 (x : Int64) : chC x 16 = chV x 16 := by
  have h1 : (((16 : Int32)).toInt64.toUInt64 &&& Int64.toUInt64 63) = 16 := by decide
  have h2 : (((16 : Int32)).toInt64 &&& 63) = 16 := by decide
  unfold chC chV
  rw [h1, h2]
  apply Int32.toBitVec.inj
  show ((Int64.toInt32 (((x.toUInt64 >>> 16).toInt64) &&& 255)).toBitVec % 65536#32) = (Int64.toInt32 (x >>> 16)).toBitVec &&& 255#32
  rw [Int64.toBitVec_toInt32, Int64.toBitVec_toInt32, BitVec.signExtend_eq_setWidth_of_le _ (by omega), BitVec.signExtend_eq_setWidth_of_le _ (by omega)]
  exact ch_bits x.toBitVec 16 (by omega)
theorem ch_8 (x : Int64) : chC x 8 = chV x 8 := by
  have h1 : (((8 : Int32)).toInt64.toUInt64 &&& Int64.toUInt64 63) = 8 := by decide
  have h2 : (((8 : Int32)).toInt64 &&& 63) = 8 := by decide
  unfold chC chV
  rw [h1, h2]
  apply Int32.toBitVec.inj
  show ((Int64.toInt32 (((x.toUInt64 >>> 8).toInt64) &&& 255)).toBitVec % 65536#32) = (Int64.toInt32 (x >>> 8)).toBitVec &&& 255#32
  rw [Int64.toBitVec_toInt32, Int64.toBitVec_toInt32, BitVec.signExtend_eq_setWidth_of_le _ (by omega), BitVec.signExtend_eq_setWidth_of_le _ (by omega)]
  exact ch_bits x.toBitVec 8 (by omega)
theorem ch_0 (x : Int64) : chC x 0 = chV x 0 := by
  have h1 : (((0 : Int32)).toInt64.toUInt64 &&& Int64.toUInt64 63) = 0 := by decide
  have h2 : (((0 : Int32)).toInt64 &&& 63) = 0 := by decide
  unfold chC chV
  rw [h1, h2]
  apply Int32.toBitVec.inj
  show ((Int64.toInt32 (((x.toUInt64 >>> 0).toInt64) &&& 255)).toBitVec % 65536#32) = (Int64.toInt32 (x >>> 0)).toBitVec &&& 255#32
  rw [Int64.toBitVec_toInt32, Int64.toBitVec_toInt32, BitVec.signExtend_eq_setWidth_of_le _ (by omega), BitVec.signExtend_eq_setWidth_of_le _ (by omega)]
  exact ch_bits x.toBitVec 0 (by omega)
