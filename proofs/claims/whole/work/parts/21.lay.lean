/-! ===== the layout: where references go, how long rows are ===== -/
def rT1 (c s k : Nat) : Option (Option Nat) :=
  if c = 1 then (if s = 0 then (if k = 1 then some (some 44) else if k = 2 then some (some 45) else if k = 3 then some (some 6) else none) else if s = 1 then (if k = 1 then some (some 83) else if k = 2 then some (some 84) else if k = 3 then some (some 17) else none) else if s = 2 then (if k = 1 then some (some 85) else if k = 2 then some (some 86) else if k = 3 then some (some 18) else none) else none)
  else if c = 3 then (if s = 0 then (if k = 2 then some (some 47) else if k = 3 then some (some 48) else if k = 4 then some (some 49) else if k = 5 then some (some 7) else none) else none)
  else if c = 4 then (if s = 0 then (if k = 0 then some (some 18) else if k = 1 then some (some 19) else if k = 2 then some (some 20) else if k = 3 then some (some 21) else none) else none)
  else if c = 5 then (if s = 0 then (if k = 0 then some (some 0) else if k = 2 then some (some 0) else if k = 3 then some (some 2) else if k = 4 then some (some 46) else none) else none)
  else if c = 10 then (if s = 0 then (if k = 0 then some (some 0) else none) else none)
  else if c = 11 then (if s = 0 then (if k = 0 then some (some 0) else if k = 5 then some (some 0) else if k = 6 then some (some 0) else if k = 7 then some (some 1) else if k = 8 then some (some 0) else if k = 9 then some (some 0) else if k = 10 then some (some 0) else if k = 11 then some (some 0) else if k = 12 then some (some 0) else if k = 13 then some (some 19) else none) else none)
  else if c = 12 then (if s = 0 then (if k = 1 then some (some 87) else if k = 4 then some (some 88) else if k = 5 then some (some 89) else if k = 6 then some (some 2) else if k = 9 then some (some 3) else if k = 10 then some (some 90) else if k = 11 then some (some 91) else if k = 13 then some (some 4) else if k = 14 then some (some 92) else if k = 15 then some (some 93) else if k = 16 then some (some 94) else if k = 17 then some (some 95) else if k = 18 then some (some 20) else if k = 19 then some (some 96) else if k = 23 then some (some 5) else if k = 24 then some (some 6) else if k = 25 then some (some 97) else if k = 27 then some (some 98) else none) else none)
  else if c = 24 then (if s = 0 then (if k = 0 then some (some 3) else if k = 1 then some (some 4) else none) else none)
  else if c = 25 then (if s = 0 then (if k = 0 then some (some 1) else if k = 1 then some (some 2) else none) else none)
  else none
/-- where each reference that never changes goes -/
def rT (c s k : Nat) : Option (Option Nat) :=
  if c = 0 then (if s < 5 ∧ 7 ≤ k ∧ k < 16 then some (some (cb s + (k - 7))) else none)
  else if c = 2 then (if s < 5 then (if k = 0 then some (some s) else if k = 5 then some (some 0) else if k = 6 then some ((if s = 2 then some 0 else none)) else if k = 7 then some (some (cb s + 9)) else if k = 8 then some (some (ob s + 0)) else if k = 9 then some (some (ob s + 1)) else if k = 12 then some (some (ob s + 2)) else if k = 13 then some (some (cb s + 10)) else none) else none)
  else if c = 7 then (if s < 2 then (if k = 4 then some (some (5 * s + 0)) else if k = 5 then some (some (5 * s + 1)) else if k = 6 then some (some s) else if k = 7 then some (some s) else none) else none)
  else if c = 8 then (if s < 2 then (if k = 0 then some (some (5 * s + 2)) else if k = 1 then some (some (5 * s + 3)) else if k = 2 then some (some (5 * s + 4)) else none) else none)
  else if c = 9 then (if s < 2 then (if k = 1 then some (some (10 + 4 * s + 0)) else if k = 2 then some (some (10 + 4 * s + 1)) else if k = 3 then some (some (10 + 4 * s + 2)) else if k = 4 then some (some (10 + 4 * s + 3)) else none) else none)
  else rT1 c s k
def nT (c s : Nat) : Option Nat :=
  if c = 20 then [5, 5, 1000, 32, 4, 5, 5, 1000, 32, 4, 24, 24, 24, 24, 24, 24, 24, 24, 20, 20, 20, 5, 6, 6, 36, 36, 36, 36, 36, 144, 144, 20, 6, 6, 6, 36, 36, 36, 36, 36, 144, 144, 20, 6, 8, 8, 20, 5760, 288, 288, 6, 6, 36, 36, 36, 36, 36, 144, 144, 20, 6, 6, 6, 36, 36, 36, 36, 36, 144, 144, 20, 6, 6, 6, 36, 36, 36, 36, 36, 144, 144, 20, 6, 8, 8, 8, 8, 1000, 1002, 1002, 40, 2200, 200, 4, 64, 2675, 13, 25, 257][s]?
  else if c = 21 then [5, 5, 1002, 23, 10, 903, 75, 1][s]?
  else if c = 22 then [5, 5, 36, 5, 5, 36, 8, 288, 5, 5, 36, 5, 5, 36, 5, 5, 36, 8, 8, 2, 2][s]?
  else if c = 23 ∧ s = 0 then some 1000 else if c = 24 ∧ s = 0 then some 2 else if c = 25 ∧ s = 0 then some 2 else none
def Lay (M : xM) : Prop := (∀ c s k v, rT c s k = some v → gR M c s k = v) ∧ ∀ c s n, nT c s = some n → gN M c s = n
theorem Lay_emb {d : Nat} {D : xT} {M : xM} (h : Lay M) : Lay (emb d D M) := h
theorem Lay_sI {M : xM} {c s k : Nat} {v : Int32} (h : Lay M) : Lay (sI M c s k v) := h
theorem Lay_sL {M : xM} {c s k : Nat} {v : Int64} (h : Lay M) : Lay (sL M c s k v) := h
theorem Lay_cpI {M : xM} {c s d sp dp n : Nat} (h : Lay M) : Lay (cpI M c s d sp dp n) := h
theorem l0_7 {M : xM} (h : Lay M) {s : Nat} (hs : s < 5) : gR M 0 s 7 = some (cb s + 0) := h.1 0 s 7 _ (by unfold rT; simp [hs])
theorem l0_8 {M : xM} (h : Lay M) {s : Nat} (hs : s < 5) : gR M 0 s 8 = some (cb s + 1) := h.1 0 s 8 _ (by unfold rT; simp [hs])
theorem l0_9 {M : xM} (h : Lay M) {s : Nat} (hs : s < 5) : gR M 0 s 9 = some (cb s + 2) := h.1 0 s 9 _ (by unfold rT; simp [hs])
theorem l0_10 {M : xM} (h : Lay M) {s : Nat} (hs : s < 5) : gR M 0 s 10 = some (cb s + 3) := h.1 0 s 10 _ (by unfold rT; simp [hs])
theorem l0_11 {M : xM} (h : Lay M) {s : Nat} (hs : s < 5) : gR M 0 s 11 = some (cb s + 4) := h.1 0 s 11 _ (by unfold rT; simp [hs])
theorem l0_12 {M : xM} (h : Lay M) {s : Nat} (hs : s < 5) : gR M 0 s 12 = some (cb s + 5) := h.1 0 s 12 _ (by unfold rT; simp [hs])
theorem l0_13 {M : xM} (h : Lay M) {s : Nat} (hs : s < 5) : gR M 0 s 13 = some (cb s + 6) := h.1 0 s 13 _ (by unfold rT; simp [hs])
theorem l0_14 {M : xM} (h : Lay M) {s : Nat} (hs : s < 5) : gR M 0 s 14 = some (cb s + 7) := h.1 0 s 14 _ (by unfold rT; simp [hs])
theorem l0_15 {M : xM} (h : Lay M) {s : Nat} (hs : s < 5) : gR M 0 s 15 = some (cb s + 8) := h.1 0 s 15 _ (by unfold rT; simp [hs])
theorem l2_0 {M : xM} (h : Lay M) {s : Nat} (hs : s < 5) : gR M 2 s 0 = some s := h.1 2 s 0 _ (by unfold rT; simp [hs])
theorem l2_5 {M : xM} (h : Lay M) {s : Nat} (hs : s < 5) : gR M 2 s 5 = some 0 := h.1 2 s 5 _ (by unfold rT; simp [hs])
theorem l2_6 {M : xM} (h : Lay M) {s : Nat} (hs : s < 5) : gR M 2 s 6 = (if s = 2 then some 0 else none) := h.1 2 s 6 _ (by unfold rT; simp [hs])
theorem l2_7 {M : xM} (h : Lay M) {s : Nat} (hs : s < 5) : gR M 2 s 7 = some (cb s + 9) := h.1 2 s 7 _ (by unfold rT; simp [hs])
theorem l2_8 {M : xM} (h : Lay M) {s : Nat} (hs : s < 5) : gR M 2 s 8 = some (ob s + 0) := h.1 2 s 8 _ (by unfold rT; simp [hs])
theorem l2_9 {M : xM} (h : Lay M) {s : Nat} (hs : s < 5) : gR M 2 s 9 = some (ob s + 1) := h.1 2 s 9 _ (by unfold rT; simp [hs])
theorem l2_12 {M : xM} (h : Lay M) {s : Nat} (hs : s < 5) : gR M 2 s 12 = some (ob s + 2) := h.1 2 s 12 _ (by unfold rT; simp [hs])
theorem l2_13 {M : xM} (h : Lay M) {s : Nat} (hs : s < 5) : gR M 2 s 13 = some (cb s + 10) := h.1 2 s 13 _ (by unfold rT; simp [hs])
theorem l7_4 {M : xM} (h : Lay M) {s : Nat} (hs : s < 2) : gR M 7 s 4 = some (5 * s + 0) := h.1 7 s 4 _ (by unfold rT; simp [hs])
theorem l7_5 {M : xM} (h : Lay M) {s : Nat} (hs : s < 2) : gR M 7 s 5 = some (5 * s + 1) := h.1 7 s 5 _ (by unfold rT; simp [hs])
theorem l7_6 {M : xM} (h : Lay M) {s : Nat} (hs : s < 2) : gR M 7 s 6 = some s := h.1 7 s 6 _ (by unfold rT; simp [hs])
theorem l7_7 {M : xM} (h : Lay M) {s : Nat} (hs : s < 2) : gR M 7 s 7 = some s := h.1 7 s 7 _ (by unfold rT; simp [hs])
theorem l8_0 {M : xM} (h : Lay M) {s : Nat} (hs : s < 2) : gR M 8 s 0 = some (5 * s + 2) := h.1 8 s 0 _ (by unfold rT; simp [hs])
theorem l8_1 {M : xM} (h : Lay M) {s : Nat} (hs : s < 2) : gR M 8 s 1 = some (5 * s + 3) := h.1 8 s 1 _ (by unfold rT; simp [hs])
theorem l8_2 {M : xM} (h : Lay M) {s : Nat} (hs : s < 2) : gR M 8 s 2 = some (5 * s + 4) := h.1 8 s 2 _ (by unfold rT; simp [hs])
theorem l9_1 {M : xM} (h : Lay M) {s : Nat} (hs : s < 2) : gR M 9 s 1 = some (10 + 4 * s + 0) := h.1 9 s 1 _ (by unfold rT; simp [hs])
theorem l9_2 {M : xM} (h : Lay M) {s : Nat} (hs : s < 2) : gR M 9 s 2 = some (10 + 4 * s + 1) := h.1 9 s 2 _ (by unfold rT; simp [hs])
theorem l9_3 {M : xM} (h : Lay M) {s : Nat} (hs : s < 2) : gR M 9 s 3 = some (10 + 4 * s + 2) := h.1 9 s 3 _ (by unfold rT; simp [hs])
theorem l9_4 {M : xM} (h : Lay M) {s : Nat} (hs : s < 2) : gR M 9 s 4 = some (10 + 4 * s + 3) := h.1 9 s 4 _ (by unfold rT; simp [hs])
theorem l4_0_0 {M : xM} (h : Lay M) : gR M 4 0 0 = some 18 := h.1 4 0 0 _ (by decide)
theorem l4_0_1 {M : xM} (h : Lay M) : gR M 4 0 1 = some 19 := h.1 4 0 1 _ (by decide)
theorem l4_0_2 {M : xM} (h : Lay M) : gR M 4 0 2 = some 20 := h.1 4 0 2 _ (by decide)
theorem l4_0_3 {M : xM} (h : Lay M) : gR M 4 0 3 = some 21 := h.1 4 0 3 _ (by decide)
theorem l3_0_2 {M : xM} (h : Lay M) : gR M 3 0 2 = some 47 := h.1 3 0 2 _ (by decide)
theorem l3_0_3 {M : xM} (h : Lay M) : gR M 3 0 3 = some 48 := h.1 3 0 3 _ (by decide)
theorem l3_0_4 {M : xM} (h : Lay M) : gR M 3 0 4 = some 49 := h.1 3 0 4 _ (by decide)
theorem l3_0_5 {M : xM} (h : Lay M) : gR M 3 0 5 = some 7 := h.1 3 0 5 _ (by decide)
theorem l10_0_0 {M : xM} (h : Lay M) : gR M 10 0 0 = some 0 := h.1 10 0 0 _ (by decide)
theorem l1_0_1 {M : xM} (h : Lay M) : gR M 1 0 1 = some 44 := h.1 1 0 1 _ (by decide)
theorem l1_0_2 {M : xM} (h : Lay M) : gR M 1 0 2 = some 45 := h.1 1 0 2 _ (by decide)
theorem l1_0_3 {M : xM} (h : Lay M) : gR M 1 0 3 = some 6 := h.1 1 0 3 _ (by decide)
theorem l1_1_1 {M : xM} (h : Lay M) : gR M 1 1 1 = some 83 := h.1 1 1 1 _ (by decide)
theorem l1_1_2 {M : xM} (h : Lay M) : gR M 1 1 2 = some 84 := h.1 1 1 2 _ (by decide)
theorem l1_1_3 {M : xM} (h : Lay M) : gR M 1 1 3 = some 17 := h.1 1 1 3 _ (by decide)
theorem l1_2_1 {M : xM} (h : Lay M) : gR M 1 2 1 = some 85 := h.1 1 2 1 _ (by decide)
theorem l1_2_2 {M : xM} (h : Lay M) : gR M 1 2 2 = some 86 := h.1 1 2 2 _ (by decide)
theorem l1_2_3 {M : xM} (h : Lay M) : gR M 1 2 3 = some 18 := h.1 1 2 3 _ (by decide)
theorem l5_0_0 {M : xM} (h : Lay M) : gR M 5 0 0 = some 0 := h.1 5 0 0 _ (by decide)
theorem l5_0_2 {M : xM} (h : Lay M) : gR M 5 0 2 = some 0 := h.1 5 0 2 _ (by decide)
theorem l5_0_3 {M : xM} (h : Lay M) : gR M 5 0 3 = some 2 := h.1 5 0 3 _ (by decide)
theorem l5_0_4 {M : xM} (h : Lay M) : gR M 5 0 4 = some 46 := h.1 5 0 4 _ (by decide)
theorem l11_0_0 {M : xM} (h : Lay M) : gR M 11 0 0 = some 0 := h.1 11 0 0 _ (by decide)
theorem l11_0_5 {M : xM} (h : Lay M) : gR M 11 0 5 = some 0 := h.1 11 0 5 _ (by decide)
theorem l11_0_6 {M : xM} (h : Lay M) : gR M 11 0 6 = some 0 := h.1 11 0 6 _ (by decide)
theorem l11_0_7 {M : xM} (h : Lay M) : gR M 11 0 7 = some 1 := h.1 11 0 7 _ (by decide)
theorem l11_0_8 {M : xM} (h : Lay M) : gR M 11 0 8 = some 0 := h.1 11 0 8 _ (by decide)
theorem l11_0_9 {M : xM} (h : Lay M) : gR M 11 0 9 = some 0 := h.1 11 0 9 _ (by decide)
theorem l11_0_10 {M : xM} (h : Lay M) : gR M 11 0 10 = some 0 := h.1 11 0 10 _ (by decide)
theorem l11_0_11 {M : xM} (h : Lay M) : gR M 11 0 11 = some 0 := h.1 11 0 11 _ (by decide)
theorem l11_0_12 {M : xM} (h : Lay M) : gR M 11 0 12 = some 0 := h.1 11 0 12 _ (by decide)
theorem l11_0_13 {M : xM} (h : Lay M) : gR M 11 0 13 = some 19 := h.1 11 0 13 _ (by decide)
theorem l24_0_0 {M : xM} (h : Lay M) : gR M 24 0 0 = some 3 := h.1 24 0 0 _ (by decide)
theorem l24_0_1 {M : xM} (h : Lay M) : gR M 24 0 1 = some 4 := h.1 24 0 1 _ (by decide)
theorem l25_0_0 {M : xM} (h : Lay M) : gR M 25 0 0 = some 1 := h.1 25 0 0 _ (by decide)
theorem l25_0_1 {M : xM} (h : Lay M) : gR M 25 0 1 = some 2 := h.1 25 0 1 _ (by decide)
theorem l12_0_1 {M : xM} (h : Lay M) : gR M 12 0 1 = some 87 := h.1 12 0 1 _ (by decide)
theorem l12_0_4 {M : xM} (h : Lay M) : gR M 12 0 4 = some 88 := h.1 12 0 4 _ (by decide)
theorem l12_0_5 {M : xM} (h : Lay M) : gR M 12 0 5 = some 89 := h.1 12 0 5 _ (by decide)
theorem l12_0_6 {M : xM} (h : Lay M) : gR M 12 0 6 = some 2 := h.1 12 0 6 _ (by decide)
theorem l12_0_9 {M : xM} (h : Lay M) : gR M 12 0 9 = some 3 := h.1 12 0 9 _ (by decide)
theorem l12_0_10 {M : xM} (h : Lay M) : gR M 12 0 10 = some 90 := h.1 12 0 10 _ (by decide)
theorem l12_0_11 {M : xM} (h : Lay M) : gR M 12 0 11 = some 91 := h.1 12 0 11 _ (by decide)
theorem l12_0_13 {M : xM} (h : Lay M) : gR M 12 0 13 = some 4 := h.1 12 0 13 _ (by decide)
theorem l12_0_14 {M : xM} (h : Lay M) : gR M 12 0 14 = some 92 := h.1 12 0 14 _ (by decide)
theorem l12_0_15 {M : xM} (h : Lay M) : gR M 12 0 15 = some 93 := h.1 12 0 15 _ (by decide)
theorem l12_0_16 {M : xM} (h : Lay M) : gR M 12 0 16 = some 94 := h.1 12 0 16 _ (by decide)
theorem l12_0_17 {M : xM} (h : Lay M) : gR M 12 0 17 = some 95 := h.1 12 0 17 _ (by decide)
theorem l12_0_18 {M : xM} (h : Lay M) : gR M 12 0 18 = some 20 := h.1 12 0 18 _ (by decide)
theorem l12_0_19 {M : xM} (h : Lay M) : gR M 12 0 19 = some 96 := h.1 12 0 19 _ (by decide)
theorem l12_0_23 {M : xM} (h : Lay M) : gR M 12 0 23 = some 5 := h.1 12 0 23 _ (by decide)
theorem l12_0_24 {M : xM} (h : Lay M) : gR M 12 0 24 = some 6 := h.1 12 0 24 _ (by decide)
theorem l12_0_25 {M : xM} (h : Lay M) : gR M 12 0 25 = some 97 := h.1 12 0 25 _ (by decide)
theorem l12_0_27 {M : xM} (h : Lay M) : gR M 12 0 27 = some 98 := h.1 12 0 27 _ (by decide)
theorem n_a0 {M : xM} (h : Lay M) {d : Nat} (hd : d < 5) : gN M 20 (cb d + 0) = 6 := h.2 _ _ _ (by match d, hd with | 0, _ => rfl | 1, _ => rfl | 2, _ => rfl | 3, _ => rfl | 4, _ => rfl)
theorem n_a1 {M : xM} (h : Lay M) {d : Nat} (hd : d < 5) : gN M 20 (cb d + 1) = 6 := h.2 _ _ _ (by match d, hd with | 0, _ => rfl | 1, _ => rfl | 2, _ => rfl | 3, _ => rfl | 4, _ => rfl)
theorem n_a2 {M : xM} (h : Lay M) {d : Nat} (hd : d < 5) : gN M 20 (cb d + 2) = 36 := h.2 _ _ _ (by match d, hd with | 0, _ => rfl | 1, _ => rfl | 2, _ => rfl | 3, _ => rfl | 4, _ => rfl)
theorem n_a3 {M : xM} (h : Lay M) {d : Nat} (hd : d < 5) : gN M 20 (cb d + 3) = 36 := h.2 _ _ _ (by match d, hd with | 0, _ => rfl | 1, _ => rfl | 2, _ => rfl | 3, _ => rfl | 4, _ => rfl)
theorem n_a4 {M : xM} (h : Lay M) {d : Nat} (hd : d < 5) : gN M 20 (cb d + 4) = 36 := h.2 _ _ _ (by match d, hd with | 0, _ => rfl | 1, _ => rfl | 2, _ => rfl | 3, _ => rfl | 4, _ => rfl)
theorem n_a5 {M : xM} (h : Lay M) {d : Nat} (hd : d < 5) : gN M 20 (cb d + 5) = 36 := h.2 _ _ _ (by match d, hd with | 0, _ => rfl | 1, _ => rfl | 2, _ => rfl | 3, _ => rfl | 4, _ => rfl)
theorem n_a6 {M : xM} (h : Lay M) {d : Nat} (hd : d < 5) : gN M 20 (cb d + 6) = 36 := h.2 _ _ _ (by match d, hd with | 0, _ => rfl | 1, _ => rfl | 2, _ => rfl | 3, _ => rfl | 4, _ => rfl)
theorem n_a7 {M : xM} (h : Lay M) {d : Nat} (hd : d < 5) : gN M 20 (cb d + 7) = 144 := h.2 _ _ _ (by match d, hd with | 0, _ => rfl | 1, _ => rfl | 2, _ => rfl | 3, _ => rfl | 4, _ => rfl)
theorem n_a8 {M : xM} (h : Lay M) {d : Nat} (hd : d < 5) : gN M 20 (cb d + 8) = 144 := h.2 _ _ _ (by match d, hd with | 0, _ => rfl | 1, _ => rfl | 2, _ => rfl | 3, _ => rfl | 4, _ => rfl)
theorem n_a9 {M : xM} (h : Lay M) {d : Nat} (hd : d < 5) : gN M 20 (cb d + 9) = 20 := h.2 _ _ _ (by match d, hd with | 0, _ => rfl | 1, _ => rfl | 2, _ => rfl | 3, _ => rfl | 4, _ => rfl)
theorem n_a10 {M : xM} (h : Lay M) {d : Nat} (hd : d < 5) : gN M 20 (cb d + 10) = 6 := h.2 _ _ _ (by match d, hd with | 0, _ => rfl | 1, _ => rfl | 2, _ => rfl | 3, _ => rfl | 4, _ => rfl)
theorem n_b0 {M : xM} (h : Lay M) {d : Nat} (hd : d < 5) : gN M 22 (ob d + 0) = 5 := h.2 _ _ _ (by match d, hd with | 0, _ => rfl | 1, _ => rfl | 2, _ => rfl | 3, _ => rfl | 4, _ => rfl)
theorem n_b1 {M : xM} (h : Lay M) {d : Nat} (hd : d < 5) : gN M 22 (ob d + 1) = 5 := h.2 _ _ _ (by match d, hd with | 0, _ => rfl | 1, _ => rfl | 2, _ => rfl | 3, _ => rfl | 4, _ => rfl)
theorem n_b2 {M : xM} (h : Lay M) {d : Nat} (hd : d < 5) : gN M 22 (ob d + 2) = 36 := h.2 _ _ _ (by match d, hd with | 0, _ => rfl | 1, _ => rfl | 2, _ => rfl | 3, _ => rfl | 4, _ => rfl)
theorem n_p0 {M : xM} (h : Lay M) {d : Nat} (hd : d < 2) : gN M 20 (5 * d + 0) = 5 := h.2 _ _ _ (by match d, hd with | 0, _ => rfl | 1, _ => rfl)
theorem n_p1 {M : xM} (h : Lay M) {d : Nat} (hd : d < 2) : gN M 20 (5 * d + 1) = 5 := h.2 _ _ _ (by match d, hd with | 0, _ => rfl | 1, _ => rfl)
theorem n_p2 {M : xM} (h : Lay M) {d : Nat} (hd : d < 2) : gN M 20 (5 * d + 2) = 1000 := h.2 _ _ _ (by match d, hd with | 0, _ => rfl | 1, _ => rfl)
theorem n_p3 {M : xM} (h : Lay M) {d : Nat} (hd : d < 2) : gN M 20 (5 * d + 3) = 32 := h.2 _ _ _ (by match d, hd with | 0, _ => rfl | 1, _ => rfl)
theorem n_p4 {M : xM} (h : Lay M) {d : Nat} (hd : d < 2) : gN M 20 (5 * d + 4) = 4 := h.2 _ _ _ (by match d, hd with | 0, _ => rfl | 1, _ => rfl)
theorem n_s0 {M : xM} (h : Lay M) {d : Nat} (hd : d < 2) : gN M 20 (10 + 4 * d + 0) = 24 := h.2 _ _ _ (by match d, hd with | 0, _ => rfl | 1, _ => rfl)
theorem n_s1 {M : xM} (h : Lay M) {d : Nat} (hd : d < 2) : gN M 20 (10 + 4 * d + 1) = 24 := h.2 _ _ _ (by match d, hd with | 0, _ => rfl | 1, _ => rfl)
theorem n_s2 {M : xM} (h : Lay M) {d : Nat} (hd : d < 2) : gN M 20 (10 + 4 * d + 2) = 24 := h.2 _ _ _ (by match d, hd with | 0, _ => rfl | 1, _ => rfl)
theorem n_s3 {M : xM} (h : Lay M) {d : Nat} (hd : d < 2) : gN M 20 (10 + 4 * d + 3) = 24 := h.2 _ _ _ (by match d, hd with | 0, _ => rfl | 1, _ => rfl)
theorem n_nm {M : xM} (h : Lay M) {d : Nat} (hd : d < 2) : gN M 21 d = 5 := h.2 _ _ _ (by match d, hd with | 0, _ => rfl | 1, _ => rfl)
theorem n20_18 {M : xM} (h : Lay M) : gN M 20 18 = 20 := h.2 _ _ _ rfl
theorem n20_19 {M : xM} (h : Lay M) : gN M 20 19 = 20 := h.2 _ _ _ rfl
theorem n20_20 {M : xM} (h : Lay M) : gN M 20 20 = 20 := h.2 _ _ _ rfl
theorem n20_21 {M : xM} (h : Lay M) : gN M 20 21 = 5 := h.2 _ _ _ rfl
theorem n20_44 {M : xM} (h : Lay M) : gN M 20 44 = 8 := h.2 _ _ _ rfl
theorem n20_45 {M : xM} (h : Lay M) : gN M 20 45 = 8 := h.2 _ _ _ rfl
theorem n20_46 {M : xM} (h : Lay M) : gN M 20 46 = 20 := h.2 _ _ _ rfl
theorem n20_47 {M : xM} (h : Lay M) : gN M 20 47 = 5760 := h.2 _ _ _ rfl
theorem n20_48 {M : xM} (h : Lay M) : gN M 20 48 = 288 := h.2 _ _ _ rfl
theorem n20_49 {M : xM} (h : Lay M) : gN M 20 49 = 288 := h.2 _ _ _ rfl
theorem n20_83 {M : xM} (h : Lay M) : gN M 20 83 = 8 := h.2 _ _ _ rfl
theorem n20_84 {M : xM} (h : Lay M) : gN M 20 84 = 8 := h.2 _ _ _ rfl
theorem n20_85 {M : xM} (h : Lay M) : gN M 20 85 = 8 := h.2 _ _ _ rfl
theorem n20_86 {M : xM} (h : Lay M) : gN M 20 86 = 8 := h.2 _ _ _ rfl
theorem n20_87 {M : xM} (h : Lay M) : gN M 20 87 = 1000 := h.2 _ _ _ rfl
theorem n20_88 {M : xM} (h : Lay M) : gN M 20 88 = 1002 := h.2 _ _ _ rfl
theorem n20_89 {M : xM} (h : Lay M) : gN M 20 89 = 1002 := h.2 _ _ _ rfl
theorem n20_90 {M : xM} (h : Lay M) : gN M 20 90 = 40 := h.2 _ _ _ rfl
theorem n20_91 {M : xM} (h : Lay M) : gN M 20 91 = 2200 := h.2 _ _ _ rfl
theorem n20_92 {M : xM} (h : Lay M) : gN M 20 92 = 200 := h.2 _ _ _ rfl
theorem n20_93 {M : xM} (h : Lay M) : gN M 20 93 = 4 := h.2 _ _ _ rfl
theorem n20_94 {M : xM} (h : Lay M) : gN M 20 94 = 64 := h.2 _ _ _ rfl
theorem n20_95 {M : xM} (h : Lay M) : gN M 20 95 = 2675 := h.2 _ _ _ rfl
theorem n20_96 {M : xM} (h : Lay M) : gN M 20 96 = 13 := h.2 _ _ _ rfl
theorem n20_97 {M : xM} (h : Lay M) : gN M 20 97 = 25 := h.2 _ _ _ rfl
theorem n20_98 {M : xM} (h : Lay M) : gN M 20 98 = 257 := h.2 _ _ _ rfl
theorem n21_2 {M : xM} (h : Lay M) : gN M 21 2 = 1002 := h.2 _ _ _ rfl
theorem n21_3 {M : xM} (h : Lay M) : gN M 21 3 = 23 := h.2 _ _ _ rfl
theorem n21_4 {M : xM} (h : Lay M) : gN M 21 4 = 10 := h.2 _ _ _ rfl
theorem n21_5 {M : xM} (h : Lay M) : gN M 21 5 = 903 := h.2 _ _ _ rfl
theorem n21_6 {M : xM} (h : Lay M) : gN M 21 6 = 75 := h.2 _ _ _ rfl
theorem n21_7 {M : xM} (h : Lay M) : gN M 21 7 = 1 := h.2 _ _ _ rfl
theorem n22_6 {M : xM} (h : Lay M) : gN M 22 6 = 8 := h.2 _ _ _ rfl
theorem n22_7 {M : xM} (h : Lay M) : gN M 22 7 = 288 := h.2 _ _ _ rfl
theorem n22_17 {M : xM} (h : Lay M) : gN M 22 17 = 8 := h.2 _ _ _ rfl
theorem n22_18 {M : xM} (h : Lay M) : gN M 22 18 = 8 := h.2 _ _ _ rfl
theorem n22_19 {M : xM} (h : Lay M) : gN M 22 19 = 2 := h.2 _ _ _ rfl
theorem n22_20 {M : xM} (h : Lay M) : gN M 22 20 = 2 := h.2 _ _ _ rfl
theorem n23_0 {M : xM} (h : Lay M) : gN M 23 0 = 1000 := h.2 _ _ _ rfl
theorem n24_0 {M : xM} (h : Lay M) : gN M 24 0 = 2 := h.2 _ _ _ rfl
theorem n25_0 {M : xM} (h : Lay M) : gN M 25 0 = 2 := h.2 _ _ _ rfl
section
variable {d k : Nat} {D : xT} {M : xM} {v : Int32}
theorem r_a0 : gI (emb d D M) 20 (cb d + 0) k = D 0 k := gI_own (ow_a (by decide))
theorem w_a0 : sI (emb d D M) 20 (cb d + 0) k v = emb d (up D 0 k v) M := sI_own (ow_a (by decide))
theorem r_a1 : gI (emb d D M) 20 (cb d + 1) k = D 1 k := gI_own (ow_a (by decide))
theorem w_a1 : sI (emb d D M) 20 (cb d + 1) k v = emb d (up D 1 k v) M := sI_own (ow_a (by decide))
theorem r_a2 : gI (emb d D M) 20 (cb d + 2) k = D 2 k := gI_own (ow_a (by decide))
theorem w_a2 : sI (emb d D M) 20 (cb d + 2) k v = emb d (up D 2 k v) M := sI_own (ow_a (by decide))
theorem r_a3 : gI (emb d D M) 20 (cb d + 3) k = D 3 k := gI_own (ow_a (by decide))
theorem w_a3 : sI (emb d D M) 20 (cb d + 3) k v = emb d (up D 3 k v) M := sI_own (ow_a (by decide))
theorem r_a4 : gI (emb d D M) 20 (cb d + 4) k = D 4 k := gI_own (ow_a (by decide))
theorem w_a4 : sI (emb d D M) 20 (cb d + 4) k v = emb d (up D 4 k v) M := sI_own (ow_a (by decide))
theorem r_a5 : gI (emb d D M) 20 (cb d + 5) k = D 5 k := gI_own (ow_a (by decide))
theorem w_a5 : sI (emb d D M) 20 (cb d + 5) k v = emb d (up D 5 k v) M := sI_own (ow_a (by decide))
theorem r_a6 : gI (emb d D M) 20 (cb d + 6) k = D 6 k := gI_own (ow_a (by decide))
theorem w_a6 : sI (emb d D M) 20 (cb d + 6) k v = emb d (up D 6 k v) M := sI_own (ow_a (by decide))
theorem r_a7 : gI (emb d D M) 20 (cb d + 7) k = D 7 k := gI_own (ow_a (by decide))
theorem w_a7 : sI (emb d D M) 20 (cb d + 7) k v = emb d (up D 7 k v) M := sI_own (ow_a (by decide))
theorem r_a8 : gI (emb d D M) 20 (cb d + 8) k = D 8 k := gI_own (ow_a (by decide))
theorem w_a8 : sI (emb d D M) 20 (cb d + 8) k v = emb d (up D 8 k v) M := sI_own (ow_a (by decide))
theorem r_a9 : gI (emb d D M) 20 (cb d + 9) k = D 9 k := gI_own (ow_a (by decide))
theorem w_a9 : sI (emb d D M) 20 (cb d + 9) k v = emb d (up D 9 k v) M := sI_own (ow_a (by decide))
theorem r_a10 : gI (emb d D M) 20 (cb d + 10) k = D 10 k := gI_own (ow_a (by decide))
theorem w_a10 : sI (emb d D M) 20 (cb d + 10) k v = emb d (up D 10 k v) M := sI_own (ow_a (by decide))
theorem r_b0 : gI (emb d D M) 22 (ob d + 0) k = D 11 k := gI_own (ow_b (by decide))
theorem w_b0 : sI (emb d D M) 22 (ob d + 0) k v = emb d (up D 11 k v) M := sI_own (ow_b (by decide))
theorem r_b1 : gI (emb d D M) 22 (ob d + 1) k = D 12 k := gI_own (ow_b (by decide))
theorem w_b1 : sI (emb d D M) 22 (ob d + 1) k v = emb d (up D 12 k v) M := sI_own (ow_b (by decide))
theorem r_b2 : gI (emb d D M) 22 (ob d + 2) k = D 13 k := gI_own (ow_b (by decide))
theorem w_b2 : sI (emb d D M) 22 (ob d + 2) k v = emb d (up D 13 k v) M := sI_own (ow_b (by decide))
theorem r_d : gI (emb d D M) 2 d k = D 14 k := gI_own (ow_2 d)
theorem w_d : sI (emb d D M) 2 d k v = emb d (up D 14 k v) M := sI_own (ow_2 d)
theorem r_c : gI (emb d D M) 0 d k = D 15 k := gI_own (ow_0 d)
theorem w_c : sI (emb d D M) 0 d k v = emb d (up D 15 k v) M := sI_own (ow_0 d)
theorem r_e : gI (emb d D M) 3 0 k = D 24 k := gI_own (ow_3 d)
theorem w_e : sI (emb d D M) 3 0 k v = emb d (up D 24 k v) M := sI_own (ow_3 d)
theorem r_t : gI (emb d D M) 22 7 k = D 23 k := gI_own (ow_t d)
theorem w_t : sI (emb d D M) 22 7 k v = emb d (up D 23 k v) M := sI_own (ow_t d)
theorem r_f0 : gI (emb d D M) 20 18 k = D 16 k := gI_own (ow_f (by decide) (by decide))
theorem w_f0 : sI (emb d D M) 20 18 k v = emb d (up D 16 k v) M := sI_own (ow_f (by decide) (by decide))
theorem r_f1 : gI (emb d D M) 20 19 k = D 17 k := gI_own (ow_f (by decide) (by decide))
theorem w_f1 : sI (emb d D M) 20 19 k v = emb d (up D 17 k v) M := sI_own (ow_f (by decide) (by decide))
theorem r_f2 : gI (emb d D M) 20 20 k = D 18 k := gI_own (ow_f (by decide) (by decide))
theorem w_f2 : sI (emb d D M) 20 20 k v = emb d (up D 18 k v) M := sI_own (ow_f (by decide) (by decide))
theorem r_f3 : gI (emb d D M) 20 21 k = D 19 k := gI_own (ow_f (by decide) (by decide))
theorem w_f3 : sI (emb d D M) 20 21 k v = emb d (up D 19 k v) M := sI_own (ow_f (by decide) (by decide))
theorem r_e0 : gI (emb d D M) 20 47 k = D 20 k := gI_own (ow_e (by decide) (by decide))
theorem w_e0 : sI (emb d D M) 20 47 k v = emb d (up D 20 k v) M := sI_own (ow_e (by decide) (by decide))
theorem r_e1 : gI (emb d D M) 20 48 k = D 21 k := gI_own (ow_e (by decide) (by decide))
theorem w_e1 : sI (emb d D M) 20 48 k v = emb d (up D 21 k v) M := sI_own (ow_e (by decide) (by decide))
theorem r_e2 : gI (emb d D M) 20 49 k = D 22 k := gI_own (ow_e (by decide) (by decide))
theorem w_e2 : sI (emb d D M) 20 49 k v = emb d (up D 22 k v) M := sI_own (ow_e (by decide) (by decide))
theorem r_o7 {s : Nat} : gI (emb d D M) 7 s k = gI M 7 s k := gI_not (by unfold own; simp)
theorem r_o8 {s : Nat} : gI (emb d D M) 8 s k = gI M 8 s k := gI_not (by unfold own; simp)
theorem r_o9 {s : Nat} : gI (emb d D M) 9 s k = gI M 9 s k := gI_not (by unfold own; simp)
theorem r_o10 {s : Nat} : gI (emb d D M) 10 s k = gI M 10 s k := gI_not (by unfold own; simp)
theorem r_o1 {s : Nat} : gI (emb d D M) 1 s k = gI M 1 s k := gI_not (by unfold own; simp)
theorem r_o5 {s : Nat} : gI (emb d D M) 5 s k = gI M 5 s k := gI_not (by unfold own; simp)
theorem r_o6 {s : Nat} : gI (emb d D M) 6 s k = gI M 6 s k := gI_not (by unfold own; simp)
theorem r_o11 {s : Nat} : gI (emb d D M) 11 s k = gI M 11 s k := gI_not (by unfold own; simp)
theorem r_o12 {s : Nat} : gI (emb d D M) 12 s k = gI M 12 s k := gI_not (by unfold own; simp)
theorem r_o21 {s : Nat} : gI (emb d D M) 21 s k = gI M 21 s k := gI_not (by unfold own; simp)
theorem r_o23 {s : Nat} : gI (emb d D M) 23 s k = gI M 23 s k := gI_not (by unfold own; simp)
theorem r_p0 {a : Nat} (ha : a < 2) : gI (emb d D M) 20 (5 * a + 0) k = gI M 20 (5 * a + 0) k := gI_not (ow_lo (by omega) (by omega) (by omega) (by omega) (by omega))
theorem r_p1 {a : Nat} (ha : a < 2) : gI (emb d D M) 20 (5 * a + 1) k = gI M 20 (5 * a + 1) k := gI_not (ow_lo (by omega) (by omega) (by omega) (by omega) (by omega))
theorem r_p2 {a : Nat} (ha : a < 2) : gI (emb d D M) 20 (5 * a + 2) k = gI M 20 (5 * a + 2) k := gI_not (ow_lo (by omega) (by omega) (by omega) (by omega) (by omega))
theorem r_s0 {a : Nat} (ha : a < 2) : gI (emb d D M) 20 (10 + 4 * a + 0) k = gI M 20 (10 + 4 * a + 0) k := gI_not (ow_lo (by omega) (by omega) (by omega) (by omega) (by omega))
theorem r_s1 {a : Nat} (ha : a < 2) : gI (emb d D M) 20 (10 + 4 * a + 1) k = gI M 20 (10 + 4 * a + 1) k := gI_not (ow_lo (by omega) (by omega) (by omega) (by omega) (by omega))
theorem r_s2 {a : Nat} (ha : a < 2) : gI (emb d D M) 20 (10 + 4 * a + 2) k = gI M 20 (10 + 4 * a + 2) k := gI_not (ow_lo (by omega) (by omega) (by omega) (by omega) (by omega))
theorem r_s3 {a : Nat} (ha : a < 2) : gI (emb d D M) 20 (10 + 4 * a + 3) k = gI M 20 (10 + 4 * a + 3) k := gI_not (ow_lo (by omega) (by omega) (by omega) (by omega) (by omega))
end
